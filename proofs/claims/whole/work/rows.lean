section
-- ===== PART A: goes FIRST, ahead of the names: the tables' words, and 'selects' of the private methods out of them =====
/-- a private method of a class that the tables say can be made, by its rows of tables_1 -/
def lw_okq (q : MethodName × Nat) : Prop := (q.1.cls ≠ "java/lang/invoke/MethodHandle" ∧ q.1.cls ≠ "java/lang/invoke/VarHandle") ∧ Cond.instantiable q.1.cls q.2 ∈ tables_1 ∧ Cond.privateMethod q.1 ∈ tables_1 ∧ Cond.instanceMethod q.1 ∈ tables_1
theorem lw_p0 : lw_okq (⟨"FewWays$Laws", "judgeDetours", "()V"⟩, 4) := ⟨⟨by decide +kernel, by decide +kernel⟩, List.mem_of_getElem? (i := 45) (by decide +kernel), List.mem_of_getElem? (i := 218) (by decide +kernel), List.mem_of_getElem? (i := 219) (by decide +kernel)⟩
theorem lw_p1 : lw_okq (⟨"FewWays$Laws", "note", "(I)V"⟩, 4) := ⟨⟨by decide +kernel, by decide +kernel⟩, List.mem_of_getElem? (i := 45) (by decide +kernel), List.mem_of_getElem? (i := 223) (by decide +kernel), List.mem_of_getElem? (i := 224) (by decide +kernel)⟩
theorem lw_p2 : lw_okq (⟨"FewWays$Laws", "judgeTrees", "()V"⟩, 4) := ⟨⟨by decide +kernel, by decide +kernel⟩, List.mem_of_getElem? (i := 45) (by decide +kernel), List.mem_of_getElem? (i := 227) (by decide +kernel), List.mem_of_getElem? (i := 228) (by decide +kernel)⟩
theorem lw_p3 : lw_okq (⟨"FewWays$Laws", "sumsStickOut", "(IIII)Z"⟩, 4) := ⟨⟨by decide +kernel, by decide +kernel⟩, List.mem_of_getElem? (i := 45) (by decide +kernel), List.mem_of_getElem? (i := 231) (by decide +kernel), List.mem_of_getElem? (i := 232) (by decide +kernel)⟩
theorem lw_p4 : lw_okq (⟨"FewWays$Laws", "judgeNests", "()V"⟩, 4) := ⟨⟨by decide +kernel, by decide +kernel⟩, List.mem_of_getElem? (i := 45) (by decide +kernel), List.mem_of_getElem? (i := 241) (by decide +kernel), List.mem_of_getElem? (i := 242) (by decide +kernel)⟩
theorem lw_p5 : lw_okq (⟨"FewWays$Laws", "judgeWeights", "(IIII)V"⟩, 4) := ⟨⟨by decide +kernel, by decide +kernel⟩, List.mem_of_getElem? (i := 45) (by decide +kernel), List.mem_of_getElem? (i := 245) (by decide +kernel), List.mem_of_getElem? (i := 246) (by decide +kernel)⟩
theorem lw_p6 : lw_okq (⟨"FewWays$Laws", "pullOn", "(I)I"⟩, 4) := ⟨⟨by decide +kernel, by decide +kernel⟩, List.mem_of_getElem? (i := 45) (by decide +kernel), List.mem_of_getElem? (i := 249) (by decide +kernel), List.mem_of_getElem? (i := 250) (by decide +kernel)⟩
theorem lw_p7 : lw_okq (⟨"FewWays$Minors", "expand", "(II)J"⟩, 2) := ⟨⟨by decide +kernel, by decide +kernel⟩, List.mem_of_getElem? (i := 67) (by decide +kernel), List.mem_of_getElem? (i := 281) (by decide +kernel), List.mem_of_getElem? (i := 282) (by decide +kernel)⟩
theorem lw_p8 : lw_okq (⟨"FewWays$Minors", "product", "(II)J"⟩, 2) := ⟨⟨by decide +kernel, by decide +kernel⟩, List.mem_of_getElem? (i := 67) (by decide +kernel), List.mem_of_getElem? (i := 285) (by decide +kernel), List.mem_of_getElem? (i := 286) (by decide +kernel)⟩
theorem lw_p9 : lw_okq (⟨"FewWays$Minors", "square", "(II)J"⟩, 2) := ⟨⟨by decide +kernel, by decide +kernel⟩, List.mem_of_getElem? (i := 67) (by decide +kernel), List.mem_of_getElem? (i := 289) (by decide +kernel), List.mem_of_getElem? (i := 290) (by decide +kernel)⟩
theorem lw_p10 : lw_okq (⟨"FewWays$Peeling", "mostHalves", "(I)I"⟩, 4) := ⟨⟨by decide +kernel, by decide +kernel⟩, List.mem_of_getElem? (i := 81) (by decide +kernel), List.mem_of_getElem? (i := 345) (by decide +kernel), List.mem_of_getElem? (i := 346) (by decide +kernel)⟩
theorem lw_p11 : lw_okq (⟨"FewWays$Peeling", "spareWay", "(III)I"⟩, 4) := ⟨⟨by decide +kernel, by decide +kernel⟩, List.mem_of_getElem? (i := 81) (by decide +kernel), List.mem_of_getElem? (i := 350) (by decide +kernel), List.mem_of_getElem? (i := 351) (by decide +kernel)⟩
theorem lw_p12 : lw_okq (⟨"FewWays$Layout", "leastPlace", "(III)I"⟩, 7) := ⟨⟨by decide +kernel, by decide +kernel⟩, List.mem_of_getElem? (i := 106) (by decide +kernel), List.mem_of_getElem? (i := 380) (by decide +kernel), List.mem_of_getElem? (i := 381) (by decide +kernel)⟩
theorem lw_p13 : lw_okq (⟨"FewWays$Layout", "measureStretch", "()V"⟩, 7) := ⟨⟨by decide +kernel, by decide +kernel⟩, List.mem_of_getElem? (i := 106) (by decide +kernel), List.mem_of_getElem? (i := 386) (by decide +kernel), List.mem_of_getElem? (i := 387) (by decide +kernel)⟩
theorem lw_p14 : lw_okq (⟨"FewWays$Layout", "tryOrders", "(III)V"⟩, 7) := ⟨⟨by decide +kernel, by decide +kernel⟩, List.mem_of_getElem? (i := 106) (by decide +kernel), List.mem_of_getElem? (i := 405) (by decide +kernel), List.mem_of_getElem? (i := 406) (by decide +kernel)⟩
theorem lw_p15 : lw_okq (⟨"FewWays$Layout", "keepIfBetter", "(I)V"⟩, 7) := ⟨⟨by decide +kernel, by decide +kernel⟩, List.mem_of_getElem? (i := 106) (by decide +kernel), List.mem_of_getElem? (i := 410) (by decide +kernel), List.mem_of_getElem? (i := 411) (by decide +kernel)⟩
def lw_privs_1 : List (MethodName × Nat) := [(⟨"FewWays$Laws", "judgeDetours", "()V"⟩, 4), (⟨"FewWays$Laws", "note", "(I)V"⟩, 4), (⟨"FewWays$Laws", "judgeTrees", "()V"⟩, 4), (⟨"FewWays$Laws", "sumsStickOut", "(IIII)Z"⟩, 4), (⟨"FewWays$Laws", "judgeNests", "()V"⟩, 4), (⟨"FewWays$Laws", "judgeWeights", "(IIII)V"⟩, 4), (⟨"FewWays$Laws", "pullOn", "(I)I"⟩, 4), (⟨"FewWays$Minors", "expand", "(II)J"⟩, 2), (⟨"FewWays$Minors", "product", "(II)J"⟩, 2), (⟨"FewWays$Minors", "square", "(II)J"⟩, 2), (⟨"FewWays$Peeling", "mostHalves", "(I)I"⟩, 4), (⟨"FewWays$Peeling", "spareWay", "(III)I"⟩, 4), (⟨"FewWays$Layout", "leastPlace", "(III)I"⟩, 7), (⟨"FewWays$Layout", "measureStretch", "()V"⟩, 7), (⟨"FewWays$Layout", "tryOrders", "(III)V"⟩, 7), (⟨"FewWays$Layout", "keepIfBetter", "(I)V"⟩, 7)]
theorem lw_r1 : ∀ q ∈ lw_privs_1, lw_okq q := List.forall_mem_cons.mpr ⟨lw_p0, List.forall_mem_cons.mpr ⟨lw_p1, List.forall_mem_cons.mpr ⟨lw_p2, List.forall_mem_cons.mpr ⟨lw_p3, List.forall_mem_cons.mpr ⟨lw_p4, List.forall_mem_cons.mpr ⟨lw_p5, List.forall_mem_cons.mpr ⟨lw_p6, List.forall_mem_cons.mpr ⟨lw_p7, List.forall_mem_cons.mpr ⟨lw_p8, List.forall_mem_cons.mpr ⟨lw_p9, List.forall_mem_cons.mpr ⟨lw_p10, List.forall_mem_cons.mpr ⟨lw_p11, List.forall_mem_cons.mpr ⟨lw_p12, List.forall_mem_cons.mpr ⟨lw_p13, List.forall_mem_cons.mpr ⟨lw_p14, List.forall_mem_cons.mpr ⟨lw_p15, fun _ h => absurd h List.not_mem_nil⟩⟩⟩⟩⟩⟩⟩⟩⟩⟩⟩⟩⟩⟩⟩⟩
theorem lw_p16 : lw_okq (⟨"FewWays$Choice", "wayToNearest", "(II)I"⟩, 1) := ⟨⟨by decide +kernel, by decide +kernel⟩, List.mem_of_getElem? (i := 135) (by decide +kernel), List.mem_of_getElem? (i := 428) (by decide +kernel), List.mem_of_getElem? (i := 429) (by decide +kernel)⟩
theorem lw_p17 : lw_okq (⟨"FewWaysModel", "fills", "()V"⟩, 10) := ⟨⟨by decide +kernel, by decide +kernel⟩, List.mem_of_getElem? (i := 471) (by decide +kernel), List.mem_of_getElem? (i := 477) (by decide +kernel), List.mem_of_getElem? (i := 478) (by decide +kernel)⟩
theorem lw_p18 : lw_okq (⟨"FewWaysModel", "isPoint", "(I)Z"⟩, 10) := ⟨⟨by decide +kernel, by decide +kernel⟩, List.mem_of_getElem? (i := 471) (by decide +kernel), List.mem_of_getElem? (i := 523) (by decide +kernel), List.mem_of_getElem? (i := 524) (by decide +kernel)⟩
theorem lw_p19 : lw_okq (⟨"FewWaysModel", "dist", "(II)I"⟩, 10) := ⟨⟨by decide +kernel, by decide +kernel⟩, List.mem_of_getElem? (i := 471) (by decide +kernel), List.mem_of_getElem? (i := 527) (by decide +kernel), List.mem_of_getElem? (i := 528) (by decide +kernel)⟩
theorem lw_p20 : lw_okq (⟨"FewWaysModel", "cases", "(I)I"⟩, 10) := ⟨⟨by decide +kernel, by decide +kernel⟩, List.mem_of_getElem? (i := 471) (by decide +kernel), List.mem_of_getElem? (i := 539) (by decide +kernel), List.mem_of_getElem? (i := 540) (by decide +kernel)⟩
theorem lw_p21 : lw_okq (⟨"FewWaysModel", "isBroken", "(II)Z"⟩, 10) := ⟨⟨by decide +kernel, by decide +kernel⟩, List.mem_of_getElem? (i := 471) (by decide +kernel), List.mem_of_getElem? (i := 543) (by decide +kernel), List.mem_of_getElem? (i := 544) (by decide +kernel)⟩
theorem lw_p22 : lw_okq (⟨"FewWaysModel", "isAbove", "(I)Z"⟩, 10) := ⟨⟨by decide +kernel, by decide +kernel⟩, List.mem_of_getElem? (i := 471) (by decide +kernel), List.mem_of_getElem? (i := 547) (by decide +kernel), List.mem_of_getElem? (i := 548) (by decide +kernel)⟩
theorem lw_p23 : lw_okq (⟨"FewWaysModel", "worth", "(I)J"⟩, 10) := ⟨⟨by decide +kernel, by decide +kernel⟩, List.mem_of_getElem? (i := 471) (by decide +kernel), List.mem_of_getElem? (i := 562) (by decide +kernel), List.mem_of_getElem? (i := 563) (by decide +kernel)⟩
theorem lw_p24 : lw_okq (⟨"FewWaysModel", "isCut", "(I)Z"⟩, 10) := ⟨⟨by decide +kernel, by decide +kernel⟩, List.mem_of_getElem? (i := 471) (by decide +kernel), List.mem_of_getElem? (i := 582) (by decide +kernel), List.mem_of_getElem? (i := 583) (by decide +kernel)⟩
theorem lw_p25 : lw_okq (⟨"FewWaysModel", "peelAll", "()V"⟩, 10) := ⟨⟨by decide +kernel, by decide +kernel⟩, List.mem_of_getElem? (i := 471) (by decide +kernel), List.mem_of_getElem? (i := 593) (by decide +kernel), List.mem_of_getElem? (i := 594) (by decide +kernel)⟩
theorem lw_p26 : lw_okq (⟨"FewWaysModel", "bears", "(I)I"⟩, 10) := ⟨⟨by decide +kernel, by decide +kernel⟩, List.mem_of_getElem? (i := 471) (by decide +kernel), List.mem_of_getElem? (i := 597) (by decide +kernel), List.mem_of_getElem? (i := 598) (by decide +kernel)⟩
theorem lw_p27 : lw_okq (⟨"FewWaysModel", "isOrder", "(I)Z"⟩, 10) := ⟨⟨by decide +kernel, by decide +kernel⟩, List.mem_of_getElem? (i := 471) (by decide +kernel), List.mem_of_getElem? (i := 609) (by decide +kernel), List.mem_of_getElem? (i := 610) (by decide +kernel)⟩
theorem lw_p28 : lw_okq (⟨"FewWaysModel", "lays", "(I)V"⟩, 10) := ⟨⟨by decide +kernel, by decide +kernel⟩, List.mem_of_getElem? (i := 471) (by decide +kernel), List.mem_of_getElem? (i := 613) (by decide +kernel), List.mem_of_getElem? (i := 614) (by decide +kernel)⟩
theorem lw_p29 : lw_okq (⟨"FewWaysModel", "stretch", "(I)I"⟩, 10) := ⟨⟨by decide +kernel, by decide +kernel⟩, List.mem_of_getElem? (i := 471) (by decide +kernel), List.mem_of_getElem? (i := 617) (by decide +kernel), List.mem_of_getElem? (i := 618) (by decide +kernel)⟩
theorem lw_p30 : lw_okq (⟨"FewWaysModel", "worthOf", "(II)I"⟩, 10) := ⟨⟨by decide +kernel, by decide +kernel⟩, List.mem_of_getElem? (i := 471) (by decide +kernel), List.mem_of_getElem? (i := 635) (by decide +kernel), List.mem_of_getElem? (i := 636) (by decide +kernel)⟩
theorem lw_p31 : lw_okq (⟨"FewWaysModel", "sumOf", "(II)I"⟩, 10) := ⟨⟨by decide +kernel, by decide +kernel⟩, List.mem_of_getElem? (i := 471) (by decide +kernel), List.mem_of_getElem? (i := 647) (by decide +kernel), List.mem_of_getElem? (i := 648) (by decide +kernel)⟩
def lw_privs_2 : List (MethodName × Nat) := [(⟨"FewWays$Choice", "wayToNearest", "(II)I"⟩, 1), (⟨"FewWaysModel", "fills", "()V"⟩, 10), (⟨"FewWaysModel", "isPoint", "(I)Z"⟩, 10), (⟨"FewWaysModel", "dist", "(II)I"⟩, 10), (⟨"FewWaysModel", "cases", "(I)I"⟩, 10), (⟨"FewWaysModel", "isBroken", "(II)Z"⟩, 10), (⟨"FewWaysModel", "isAbove", "(I)Z"⟩, 10), (⟨"FewWaysModel", "worth", "(I)J"⟩, 10), (⟨"FewWaysModel", "isCut", "(I)Z"⟩, 10), (⟨"FewWaysModel", "peelAll", "()V"⟩, 10), (⟨"FewWaysModel", "bears", "(I)I"⟩, 10), (⟨"FewWaysModel", "isOrder", "(I)Z"⟩, 10), (⟨"FewWaysModel", "lays", "(I)V"⟩, 10), (⟨"FewWaysModel", "stretch", "(I)I"⟩, 10), (⟨"FewWaysModel", "worthOf", "(II)I"⟩, 10), (⟨"FewWaysModel", "sumOf", "(II)I"⟩, 10)]
theorem lw_r2 : ∀ q ∈ lw_privs_2, lw_okq q := List.forall_mem_cons.mpr ⟨lw_p16, List.forall_mem_cons.mpr ⟨lw_p17, List.forall_mem_cons.mpr ⟨lw_p18, List.forall_mem_cons.mpr ⟨lw_p19, List.forall_mem_cons.mpr ⟨lw_p20, List.forall_mem_cons.mpr ⟨lw_p21, List.forall_mem_cons.mpr ⟨lw_p22, List.forall_mem_cons.mpr ⟨lw_p23, List.forall_mem_cons.mpr ⟨lw_p24, List.forall_mem_cons.mpr ⟨lw_p25, List.forall_mem_cons.mpr ⟨lw_p26, List.forall_mem_cons.mpr ⟨lw_p27, List.forall_mem_cons.mpr ⟨lw_p28, List.forall_mem_cons.mpr ⟨lw_p29, List.forall_mem_cons.mpr ⟨lw_p30, List.forall_mem_cons.mpr ⟨lw_p31, fun _ h => absurd h List.not_mem_nil⟩⟩⟩⟩⟩⟩⟩⟩⟩⟩⟩⟩⟩⟩⟩⟩
def lw_privs : List (MethodName × Nat) := lw_privs_1 ++ (lw_privs_2)
def lw_tbl : List Cond := k2_sels lw_privs ++ tables_1
theorem lw_privs_ok : ∀ q ∈ lw_privs, lw_okq q := by
  show ∀ q ∈ lw_privs_1 ++ (lw_privs_2), lw_okq q
  exact List.forall_mem_append.mpr ⟨lw_r1, lw_r2⟩
-- ===== end of PART A; then your names; then what follows =====
end
section
/-! ===== BEGIN words of one list among another's, by their places ===== -/
theorem goodIn_r {big : List Cond} (ws : List Cond) (ps : List Nat) (hp : ws = ps.filterMap (fun i => big[i]?)) (h : ws.all goodWord = true) : GoodIn big ws := by
  intro w hw
  have h1 := List.all_eq_true.mp h w hw
  rw [hp] at hw
  obtain ⟨i, -, hi⟩ := List.mem_filterMap.mp hw
  have hm : w ∈ big := by first | exact List.mem_of_getElem? hi | exact List.getElem?_mem hi
  exact ⟨hm, good_of_word h1⟩
theorem goodIn_app {big a b : List Cond} (ha : GoodIn big a) (hb : GoodIn big b) : GoodIn big (a ++ b) := fun w h => (List.mem_append.mp h).elim (ha w) (hb w)
theorem goodIn_ca {big a b : List Cond} {c : Cond} (ha : GoodIn big (c :: a)) (hb : GoodIn big b) : GoodIn big (c :: (a ++ b)) := fun w h => (List.mem_cons.mp h).elim (fun e => ha w (List.mem_cons.mpr (Or.inl e))) (fun h => (List.mem_append.mp h).elim (fun h => ha w (List.mem_cons.mpr (Or.inr h))) (hb w))
theorem goodIn_sub {big ws : List Cond} (hm : ∀ w ∈ ws, w ∈ big) (h : ws.all goodWord = true) : GoodIn big ws := fun w hw => ⟨hm w hw, good_of_word (List.all_eq_true.mp h w hw)⟩
/-! ===== END ===== -/

/-! ===== BEGIN printed: names, fields, word lists, decode rows ===== -/
def RX0 : String := "FewWays$Choice"
def TX0 : u_T := fun k => match k with
  | _ => ("FewWays$Choice", "table", "LFewWays$Table;", true)
def tyX0 : Nat → FieldType := fun k => match k with
  | _ => .object "FewWays$Table"
abbrev wsX00 : List Cond := u_ws RX0 TX0 1
theorem nmX0 : ∀ a, a < 1 → ∀ b, b < 1 → a ≠ b → (TX0 a).2.1 ≠ (TX0 b).2.1 := by decide +kernel
theorem tyX0_ok : ∀ k, k < 1 → parseFieldDescriptor (TX0 k).2.2.1 = some (tyX0 k) := by decide +kernel
abbrev cX0_init : ByteArray := prog_2_method_1_code
def yX0_init : MethodName := ⟨RX0, "<init>", "(LFewWays$Table;)V"⟩
abbrev cX0_nearest : ByteArray := prog_2_method_2_code
def yX0_nearest : MethodName := ⟨RX0, "nearest", "(IZ)I"⟩
abbrev cX0_cost : ByteArray := prog_2_method_3_code
def yX0_cost : MethodName := ⟨RX0, "cost", "(IZ)I"⟩
abbrev cX0_wayToNearest : ByteArray := prog_2_method_4_code
def yX0_wayToNearest : MethodName := ⟨RX0, "wayToNearest", "(II)I"⟩
def RX1 : String := "FewWays$Laws"
def TX1 : u_T := fun k => match k with
  | 0 => ("FewWays$Laws", "table", "LFewWays$Table;", true)
  | 1 => ("FewWays$Laws", "weights", "[I", true)
  | 2 => ("FewWays$Laws", "firstCase", "I", false)
  | _ => ("FewWays$Laws", "broken", "I", false)
def tyX1 : Nat → FieldType := fun k => match k with
  | 0 => .object "FewWays$Table"
  | 1 => .array .int
  | 2 => .int
  | _ => .int
abbrev wsX10 : List Cond := u_ws RX1 TX1 4
theorem nmX1 : ∀ a, a < 4 → ∀ b, b < 4 → a ≠ b → (TX1 a).2.1 ≠ (TX1 b).2.1 := by decide +kernel
theorem tyX1_ok : ∀ k, k < 4 → parseFieldDescriptor (TX1 k).2.2.1 = some (tyX1 k) := by decide +kernel
abbrev cX1_init : ByteArray := prog_3_method_1_code
def yX1_init : MethodName := ⟨RX1, "<init>", "(LFewWays$Table;)V"⟩
abbrev cX1_hasLaw : ByteArray := prog_3_method_2_code
def yX1_hasLaw : MethodName := ⟨RX1, "hasLaw", "(I)Z"⟩
abbrev cX1_judge : ByteArray := prog_3_method_3_code
def yX1_judge : MethodName := ⟨RX1, "judge", "(I)V"⟩
abbrev cX1_note : ByteArray := prog_3_method_4_code
def yX1_note : MethodName := ⟨RX1, "note", "(I)V"⟩
abbrev cX1_judgeDetours : ByteArray := prog_3_method_5_code
def yX1_judgeDetours : MethodName := ⟨RX1, "judgeDetours", "()V"⟩
abbrev cX1_judgeTrees : ByteArray := prog_3_method_6_code
def yX1_judgeTrees : MethodName := ⟨RX1, "judgeTrees", "()V"⟩
abbrev cX1_sumsStickOut : ByteArray := prog_3_method_7_code
def yX1_sumsStickOut : MethodName := ⟨RX1, "sumsStickOut", "(IIII)Z"⟩
abbrev cX1_judgeNests : ByteArray := prog_3_method_8_code
def yX1_judgeNests : MethodName := ⟨RX1, "judgeNests", "()V"⟩
abbrev cX1_greatestIsAlone : ByteArray := prog_3_method_9_code
def yX1_greatestIsAlone : MethodName := ⟨RX1, "greatestIsAlone", "(III)Z"⟩
abbrev cX1_judgeWeights : ByteArray := prog_3_method_10_code
def yX1_judgeWeights : MethodName := ⟨RX1, "judgeWeights", "(IIII)V"⟩
abbrev cX1_pullOn : ByteArray := prog_3_method_11_code
def yX1_pullOn : MethodName := ⟨RX1, "pullOn", "(I)I"⟩
def RX2 : String := "FewWays$Layout"
def TX2 : u_T := fun k => match k with
  | 0 => ("FewWays$Layout", "table", "LFewWays$Table;", true)
  | 1 => ("FewWays$Layout", "places", "[I", true)
  | 2 => ("FewWays$Layout", "above", "I", false)
  | 3 => ("FewWays$Layout", "below", "I", false)
  | 4 => ("FewWays$Layout", "bestOrder", "I", false)
  | 5 => ("FewWays$Layout", "bestAbove", "I", false)
  | _ => ("FewWays$Layout", "bestBelow", "I", false)
def tyX2 : Nat → FieldType := fun k => match k with
  | 0 => .object "FewWays$Table"
  | 1 => .array .int
  | 2 => .int
  | 3 => .int
  | 4 => .int
  | 5 => .int
  | _ => .int
abbrev wsX20 : List Cond := u_ws RX2 TX2 7
theorem nmX2 : ∀ a, a < 7 → ∀ b, b < 7 → a ≠ b → (TX2 a).2.1 ≠ (TX2 b).2.1 := by decide +kernel
theorem tyX2_ok : ∀ k, k < 7 → parseFieldDescriptor (TX2 k).2.2.1 = some (tyX2 k) := by decide +kernel
abbrev cX2_init : ByteArray := prog_4_method_1_code
def yX2_init : MethodName := ⟨RX2, "<init>", "(LFewWays$Table;)V"⟩
abbrev cX2_isOrder : ByteArray := prog_4_method_2_code
def yX2_isOrder : MethodName := ⟨RX2, "isOrder", "(I)Z"⟩
abbrev cX2_pointAt : ByteArray := prog_4_method_3_code
def yX2_pointAt : MethodName := ⟨RX2, "pointAt", "(II)I"⟩
abbrev cX2_lay : ByteArray := prog_4_method_4_code
def yX2_lay : MethodName := ⟨RX2, "lay", "(I)V"⟩
abbrev cX2_leastPlace : ByteArray := prog_4_method_5_code
def yX2_leastPlace : MethodName := ⟨RX2, "leastPlace", "(III)I"⟩
abbrev cX2_measureStretch : ByteArray := prog_4_method_6_code
def yX2_measureStretch : MethodName := ⟨RX2, "measureStretch", "()V"⟩
abbrev cX2_stretchPart : ByteArray := prog_4_method_7_code
def yX2_stretchPart : MethodName := ⟨RX2, "stretchPart", "(I)I"⟩
abbrev cX2_leastStretched : ByteArray := prog_4_method_8_code
def yX2_leastStretched : MethodName := ⟨RX2, "leastStretched", "()I"⟩
abbrev cX2_tryOrders : ByteArray := prog_4_method_9_code
def yX2_tryOrders : MethodName := ⟨RX2, "tryOrders", "(III)V"⟩
abbrev cX2_keepIfBetter : ByteArray := prog_4_method_10_code
def yX2_keepIfBetter : MethodName := ⟨RX2, "keepIfBetter", "(I)V"⟩
def RX3 : String := "FewWays$Minors"
def TX3 : u_T := fun k => match k with
  | 0 => ("FewWays$Minors", "table", "LFewWays$Table;", true)
  | _ => ("FewWays$Minors", "found", "[J", true)
def tyX3 : Nat → FieldType := fun k => match k with
  | 0 => .object "FewWays$Table"
  | _ => .array .long
abbrev wsX30 : List Cond := u_ws RX3 TX3 2
theorem nmX3 : ∀ a, a < 2 → ∀ b, b < 2 → a ≠ b → (TX3 a).2.1 ≠ (TX3 b).2.1 := by decide +kernel
theorem tyX3_ok : ∀ k, k < 2 → parseFieldDescriptor (TX3 k).2.2.1 = some (tyX3 k) := by decide +kernel
abbrev cX3_init : ByteArray := prog_5_method_1_code
def yX3_init : MethodName := ⟨RX3, "<init>", "(LFewWays$Table;)V"⟩
abbrev cX3_noneIsNegative : ByteArray := prog_5_method_2_code
def yX3_noneIsNegative : MethodName := ⟨RX3, "noneIsNegative", "()Z"⟩
abbrev cX3_rank : ByteArray := prog_5_method_3_code
def yX3_rank : MethodName := ⟨RX3, "rank", "()I"⟩
abbrev cX3_determinant : ByteArray := prog_5_method_4_code
def yX3_determinant : MethodName := ⟨RX3, "determinant", "(I)J"⟩
abbrev cX3_expand : ByteArray := prog_5_method_5_code
def yX3_expand : MethodName := ⟨RX3, "expand", "(II)J"⟩
abbrev cX3_product : ByteArray := prog_5_method_6_code
def yX3_product : MethodName := ⟨RX3, "product", "(II)J"⟩
abbrev cX3_square : ByteArray := prog_5_method_7_code
def yX3_square : MethodName := ⟨RX3, "square", "(II)J"⟩
abbrev cX3_memberAt : ByteArray := prog_5_method_8_code
def yX3_memberAt : MethodName := ⟨RX3, "memberAt", "(II)I"⟩
def RX4 : String := "FewWays$Peeling"
def TX4 : u_T := fun k => match k with
  | 0 => ("FewWays$Peeling", "table", "LFewWays$Table;", true)
  | 1 => ("FewWays$Peeling", "rest", "LFewWays$Table;", true)
  | 2 => ("FewWays$Peeling", "restLaws", "LFewWays$Laws;", true)
  | _ => ("FewWays$Peeling", "taken", "[I", true)
def tyX4 : Nat → FieldType := fun k => match k with
  | 0 => .object "FewWays$Table"
  | 1 => .object "FewWays$Table"
  | 2 => .object "FewWays$Laws"
  | _ => .array .int
abbrev wsX40 : List Cond := u_ws RX4 TX4 4
theorem nmX4 : ∀ a, a < 4 → ∀ b, b < 4 → a ≠ b → (TX4 a).2.1 ≠ (TX4 b).2.1 := by decide +kernel
theorem tyX4_ok : ∀ k, k < 4 → parseFieldDescriptor (TX4 k).2.2.1 = some (tyX4 k) := by decide +kernel
abbrev cX4_init : ByteArray := prog_6_method_1_code
def yX4_init : MethodName := ⟨RX4, "<init>", "(LFewWays$Table;)V"⟩
abbrev cX4_takeAll : ByteArray := prog_6_method_2_code
def yX4_takeAll : MethodName := ⟨RX4, "takeAll", "()V"⟩
abbrev cX4_mostHalves : ByteArray := prog_6_method_3_code
def yX4_mostHalves : MethodName := ⟨RX4, "mostHalves", "(I)I"⟩
abbrev cX4_spareWay : ByteArray := prog_6_method_4_code
def yX4_spareWay : MethodName := ⟨RX4, "spareWay", "(III)I"⟩
def RX5 : String := "FewWays$Signing"
def TX5 : u_T := fun k => match k with
  | _ => ("FewWays$Signing", "numbers", "[I", true)
def tyX5 : Nat → FieldType := fun k => match k with
  | _ => .array .int
abbrev wsX50 : List Cond := u_ws RX5 TX5 1
theorem nmX5 : ∀ a, a < 1 → ∀ b, b < 1 → a ≠ b → (TX5 a).2.1 ≠ (TX5 b).2.1 := by decide +kernel
theorem tyX5_ok : ∀ k, k < 1 → parseFieldDescriptor (TX5 k).2.2.1 = some (tyX5 k) := by decide +kernel
abbrev cX5_init : ByteArray := prog_7_method_1_code
def yX5_init : MethodName := ⟨RX5, "<init>", "()V"⟩
abbrev cX5_hasLength : ByteArray := prog_7_method_2_code
def yX5_hasLength : MethodName := ⟨RX5, "hasLength", "(I)Z"⟩
abbrev cX5_size : ByteArray := prog_7_method_3_code
def yX5_size : MethodName := ⟨RX5, "size", "(II)I"⟩
abbrev cX5_rowsWithin : ByteArray := prog_7_method_4_code
def yX5_rowsWithin : MethodName := ⟨RX5, "rowsWithin", "(II)I"⟩
abbrev cX5_smallestRow : ByteArray := prog_7_method_5_code
def yX5_smallestRow : MethodName := ⟨RX5, "smallestRow", "(I)I"⟩
def RX6 : String := "FewWays$Table"
def TX6 : u_T := fun k => match k with
  | 0 => ("FewWays$Table", "cells", "[I", true)
  | _ => ("FewWays$Table", "points", "I", false)
def tyX6 : Nat → FieldType := fun k => match k with
  | 0 => .array .int
  | _ => .int
abbrev wsX60 : List Cond := u_ws RX6 TX6 2
theorem nmX6 : ∀ a, a < 2 → ∀ b, b < 2 → a ≠ b → (TX6 a).2.1 ≠ (TX6 b).2.1 := by decide +kernel
theorem tyX6_ok : ∀ k, k < 2 → parseFieldDescriptor (TX6 k).2.2.1 = some (tyX6 k) := by decide +kernel
abbrev cX6_init : ByteArray := prog_8_method_1_code
def yX6_init : MethodName := ⟨RX6, "<init>", "()V"⟩
abbrev cX6_reset : ByteArray := prog_8_method_2_code
def yX6_reset : MethodName := ⟨RX6, "reset", "(I)V"⟩
abbrev cX6_copyDoubled : ByteArray := prog_8_method_3_code
def yX6_copyDoubled : MethodName := ⟨RX6, "copyDoubled", "(LFewWays$Table;)V"⟩
abbrev cX6_hasPoint : ByteArray := prog_8_method_4_code
def yX6_hasPoint : MethodName := ⟨RX6, "hasPoint", "(I)Z"⟩
abbrev cX6_hasPair : ByteArray := prog_8_method_5_code
def yX6_hasPair : MethodName := ⟨RX6, "hasPair", "(II)Z"⟩
abbrev cX6_hasCut : ByteArray := prog_8_method_6_code
def yX6_hasCut : MethodName := ⟨RX6, "hasCut", "(I)Z"⟩
abbrev cX6_between : ByteArray := prog_8_method_7_code
def yX6_between : MethodName := ⟨RX6, "between", "(II)I"⟩
abbrev cX6_put : ByteArray := prog_8_method_8_code
def yX6_put : MethodName := ⟨RX6, "put", "(III)V"⟩
abbrev cX6_bearsCut : ByteArray := prog_8_method_9_code
def yX6_bearsCut : MethodName := ⟨RX6, "bearsCut", "(II)Z"⟩
abbrev cX6_putCut : ByteArray := prog_8_method_10_code
def yX6_putCut : MethodName := ⟨RX6, "putCut", "(II)V"⟩
def RX7 : String := "FewWays"
def TX7 : u_T := fun k => match k with
  | 0 => ("FewWays", "distances", "LFewWays$Table;", true)
  | 1 => ("FewWays", "laws", "LFewWays$Laws;", true)
  | 2 => ("FewWays", "minors", "LFewWays$Minors;", true)
  | 3 => ("FewWays", "peeling", "LFewWays$Peeling;", true)
  | 4 => ("FewWays", "layout", "LFewWays$Layout;", true)
  | 5 => ("FewWays", "choice", "LFewWays$Choice;", true)
  | _ => ("FewWays", "signing", "LFewWays$Signing;", true)
def tyX7 : Nat → FieldType := fun k => match k with
  | 0 => .object "FewWays$Table"
  | 1 => .object "FewWays$Laws"
  | 2 => .object "FewWays$Minors"
  | 3 => .object "FewWays$Peeling"
  | 4 => .object "FewWays$Layout"
  | 5 => .object "FewWays$Choice"
  | _ => .object "FewWays$Signing"
abbrev wsX70 : List Cond := u_ws RX7 TX7 7
theorem nmX7 : ∀ a, a < 7 → ∀ b, b < 7 → a ≠ b → (TX7 a).2.1 ≠ (TX7 b).2.1 := by decide +kernel
theorem tyX7_ok : ∀ k, k < 7 → parseFieldDescriptor (TX7 k).2.2.1 = some (tyX7 k) := by decide +kernel
abbrev cX7_init : ByteArray := prog_1_method_1_code
def yX7_init : MethodName := ⟨RX7, "<init>", "()V"⟩
abbrev cX7_table : ByteArray := prog_1_method_2_code
def yX7_table : MethodName := ⟨RX7, "table", "(I)I"⟩
abbrev cX7_set : ByteArray := prog_1_method_3_code
def yX7_set : MethodName := ⟨RX7, "set", "(III)I"⟩
abbrev cX7_at : ByteArray := prog_1_method_4_code
def yX7_at : MethodName := ⟨RX7, "at", "(II)I"⟩
abbrev cX7_law : ByteArray := prog_1_method_5_code
def yX7_law : MethodName := ⟨RX7, "law", "(I)I"⟩
abbrev cX7_breaks : ByteArray := prog_1_method_6_code
def yX7_breaks : MethodName := ⟨RX7, "breaks", "(I)I"⟩
abbrev cX7_flat : ByteArray := prog_1_method_7_code
def yX7_flat : MethodName := ⟨RX7, "flat", "()I"⟩
abbrev cX7_ways : ByteArray := prog_1_method_8_code
def yX7_ways : MethodName := ⟨RX7, "ways", "()I"⟩
abbrev cX7_bulk : ByteArray := prog_1_method_9_code
def yX7_bulk : MethodName := ⟨RX7, "bulk", "(I)J"⟩
abbrev cX7_add : ByteArray := prog_1_method_10_code
def yX7_add : MethodName := ⟨RX7, "add", "(II)I"⟩
abbrev cX7_peel : ByteArray := prog_1_method_11_code
def yX7_peel : MethodName := ⟨RX7, "peel", "(I)I"⟩
abbrev cX7_left : ByteArray := prog_1_method_12_code
def yX7_left : MethodName := ⟨RX7, "left", "(II)I"⟩
abbrev cX7_line : ByteArray := prog_1_method_13_code
def yX7_line : MethodName := ⟨RX7, "line", "(III)I"⟩
abbrev cX7_best : ByteArray := prog_1_method_14_code
def yX7_best : MethodName := ⟨RX7, "best", "(I)I"⟩
abbrev cX7_centres : ByteArray := prog_1_method_15_code
def yX7_centres : MethodName := ⟨RX7, "centres", "(III)I"⟩
abbrev cX7_number : ByteArray := prog_1_method_16_code
def yX7_number : MethodName := ⟨RX7, "number", "(II)I"⟩
abbrev cX7_signs : ByteArray := prog_1_method_17_code
def yX7_signs : MethodName := ⟨RX7, "signs", "(II)I"⟩
abbrev cX7_least : ByteArray := prog_1_method_18_code
def yX7_least : MethodName := ⟨RX7, "least", "(II)I"⟩
abbrev cX7_count : ByteArray := prog_1_method_19_code
def yX7_count : MethodName := ⟨RX7, "count", "()I"⟩
abbrev cX7_holds : ByteArray := prog_1_method_20_code
def yX7_holds : MethodName := ⟨RX7, "holds", "(II)Z"⟩
abbrev cX7_parts : ByteArray := prog_1_method_21_code
def yX7_parts : MethodName := ⟨RX7, "parts", "(III)Z"⟩
def RX8 : String := "FewWaysModel"
def TX8 : u_T := fun k => match k with
  | 0 => ("FewWaysModel", "n", "I", false)
  | 1 => ("FewWaysModel", "d", "[I", true)
  | 2 => ("FewWaysModel", "left", "[I", true)
  | 3 => ("FewWaysModel", "peels", "[I", true)
  | 4 => ("FewWaysModel", "numbers", "[I", true)
  | 5 => ("FewWaysModel", "point", "[I", true)
  | 6 => ("FewWaysModel", "worths", "[J", true)
  | 7 => ("FewWaysModel", "place", "[I", true)
  | 8 => ("FewWaysModel", "above", "I", false)
  | _ => ("FewWaysModel", "below", "I", false)
def tyX8 : Nat → FieldType := fun k => match k with
  | 0 => .int
  | 1 => .array .int
  | 2 => .array .int
  | 3 => .array .int
  | 4 => .array .int
  | 5 => .array .int
  | 6 => .array .long
  | 7 => .array .int
  | 8 => .int
  | _ => .int
abbrev wsX80 : List Cond := u_ws RX8 TX8 10
theorem nmX8 : ∀ a, a < 10 → ∀ b, b < 10 → a ≠ b → (TX8 a).2.1 ≠ (TX8 b).2.1 := by decide +kernel
theorem tyX8_ok : ∀ k, k < 10 → parseFieldDescriptor (TX8 k).2.2.1 = some (tyX8 k) := by decide +kernel
abbrev cX8_init : ByteArray := prog_10_method_1_code
def yX8_init : MethodName := ⟨RX8, "<init>", "()V"⟩
abbrev cX8_in : ByteArray := prog_10_method_2_code
def yX8_in : MethodName := ⟨RX8, "in", "(III)Z"⟩
abbrev cX8_fills : ByteArray := prog_10_method_3_code
def yX8_fills : MethodName := ⟨RX8, "fills", "()V"⟩
abbrev cX8_dist : ByteArray := prog_10_method_4_code
def yX8_dist : MethodName := ⟨RX8, "dist", "(II)I"⟩
abbrev cX8_table : ByteArray := prog_10_method_5_code
def yX8_table : MethodName := ⟨RX8, "table", "(I)I"⟩
abbrev cX8_isPoint : ByteArray := prog_10_method_6_code
def yX8_isPoint : MethodName := ⟨RX8, "isPoint", "(I)Z"⟩
abbrev cX8_set : ByteArray := prog_10_method_7_code
def yX8_set : MethodName := ⟨RX8, "set", "(III)I"⟩
abbrev cX8_at : ByteArray := prog_10_method_8_code
def yX8_at : MethodName := ⟨RX8, "at", "(II)I"⟩
abbrev cX8_isTwice : ByteArray := prog_10_method_9_code
def yX8_isTwice : MethodName := ⟨RX8, "isTwice", "(III)Z"⟩
abbrev cX8_isBroken : ByteArray := prog_10_method_10_code
def yX8_isBroken : MethodName := ⟨RX8, "isBroken", "(II)Z"⟩
abbrev cX8_isAbove : ByteArray := prog_10_method_11_code
def yX8_isAbove : MethodName := ⟨RX8, "isAbove", "(I)Z"⟩
abbrev cX8_cases : ByteArray := prog_10_method_12_code
def yX8_cases : MethodName := ⟨RX8, "cases", "(I)I"⟩
abbrev cX8_law : ByteArray := prog_10_method_13_code
def yX8_law : MethodName := ⟨RX8, "law", "(I)I"⟩
abbrev cX8_breaks : ByteArray := prog_10_method_14_code
def yX8_breaks : MethodName := ⟨RX8, "breaks", "(I)I"⟩
abbrev cX8_worth : ByteArray := prog_10_method_15_code
def yX8_worth : MethodName := ⟨RX8, "worth", "(I)J"⟩
abbrev cX8_bits : ByteArray := prog_10_method_16_code
def yX8_bits : MethodName := ⟨RX8, "bits", "(I)I"⟩
abbrev cX8_flat : ByteArray := prog_10_method_17_code
def yX8_flat : MethodName := ⟨RX8, "flat", "()I"⟩
abbrev cX8_ways : ByteArray := prog_10_method_18_code
def yX8_ways : MethodName := ⟨RX8, "ways", "()I"⟩
abbrev cX8_bulk : ByteArray := prog_10_method_19_code
def yX8_bulk : MethodName := ⟨RX8, "bulk", "(I)J"⟩
abbrev cX8_isCut : ByteArray := prog_10_method_20_code
def yX8_isCut : MethodName := ⟨RX8, "isCut", "(I)Z"⟩
abbrev cX8_parts : ByteArray := prog_10_method_21_code
def yX8_parts : MethodName := ⟨RX8, "parts", "(III)Z"⟩
abbrev cX8_add : ByteArray := prog_10_method_22_code
def yX8_add : MethodName := ⟨RX8, "add", "(II)I"⟩
abbrev cX8_bears : ByteArray := prog_10_method_23_code
def yX8_bears : MethodName := ⟨RX8, "bears", "(I)I"⟩
abbrev cX8_peelAll : ByteArray := prog_10_method_24_code
def yX8_peelAll : MethodName := ⟨RX8, "peelAll", "()V"⟩
abbrev cX8_peel : ByteArray := prog_10_method_25_code
def yX8_peel : MethodName := ⟨RX8, "peel", "(I)I"⟩
abbrev cX8_left : ByteArray := prog_10_method_26_code
def yX8_left : MethodName := ⟨RX8, "left", "(II)I"⟩
abbrev cX8_isOrder : ByteArray := prog_10_method_27_code
def yX8_isOrder : MethodName := ⟨RX8, "isOrder", "(I)Z"⟩
abbrev cX8_lays : ByteArray := prog_10_method_28_code
def yX8_lays : MethodName := ⟨RX8, "lays", "(I)V"⟩
abbrev cX8_common : ByteArray := prog_10_method_29_code
def yX8_common : MethodName := ⟨RX8, "common", "(II)I"⟩
abbrev cX8_stretch : ByteArray := prog_10_method_30_code
def yX8_stretch : MethodName := ⟨RX8, "stretch", "(I)I"⟩
abbrev cX8_line : ByteArray := prog_10_method_31_code
def yX8_line : MethodName := ⟨RX8, "line", "(III)I"⟩
abbrev cX8_isLower : ByteArray := prog_10_method_32_code
def yX8_isLower : MethodName := ⟨RX8, "isLower", "(II)Z"⟩
abbrev cX8_best : ByteArray := prog_10_method_33_code
def yX8_best : MethodName := ⟨RX8, "best", "(I)I"⟩
abbrev cX8_worthOf : ByteArray := prog_10_method_34_code
def yX8_worthOf : MethodName := ⟨RX8, "worthOf", "(II)I"⟩
abbrev cX8_centres : ByteArray := prog_10_method_35_code
def yX8_centres : MethodName := ⟨RX8, "centres", "(III)I"⟩
abbrev cX8_number : ByteArray := prog_10_method_36_code
def yX8_number : MethodName := ⟨RX8, "number", "(II)I"⟩
abbrev cX8_sumOf : ByteArray := prog_10_method_37_code
def yX8_sumOf : MethodName := ⟨RX8, "sumOf", "(II)I"⟩
abbrev cX8_signs : ByteArray := prog_10_method_38_code
def yX8_signs : MethodName := ⟨RX8, "signs", "(II)I"⟩
abbrev cX8_least : ByteArray := prog_10_method_39_code
def yX8_least : MethodName := ⟨RX8, "least", "(II)I"⟩
abbrev cX8_count : ByteArray := prog_10_method_40_code
def yX8_count : MethodName := ⟨RX8, "count", "()I"⟩
def RJ6 : String := "java/lang/Integer"
def TJ6 : u_T := fun k => match k with
  | _ => ("", "", "", false)
def tyJ6 : Nat → FieldType := fun k => match k with
  | _ => .int
abbrev wsJ60 : List Cond := u_ws RJ6 TJ6 0
theorem nmJ6 : ∀ a, a < 0 → ∀ b, b < 0 → a ≠ b → (TJ6 a).2.1 ≠ (TJ6 b).2.1 := by decide +kernel
theorem tyJ6_ok : ∀ k, k < 0 → parseFieldDescriptor (TJ6 k).2.2.1 = some (tyJ6 k) := by decide +kernel
abbrev cJ6_bitCount_0f7a4 : ByteArray := prog_11_method_49_code
def yJ6_bitCount_0f7a4 : MethodName := ⟨RJ6, "bitCount", "(I)I"⟩
def RJ9 : String := "java/lang/Math"
def TJ9 : u_T := fun k => match k with
  | _ => ("", "", "", false)
def tyJ9 : Nat → FieldType := fun k => match k with
  | _ => .int
abbrev wsJ90 : List Cond := u_ws RJ9 TJ9 0
theorem nmJ9 : ∀ a, a < 0 → ∀ b, b < 0 → a ≠ b → (TJ9 a).2.1 ≠ (TJ9 b).2.1 := by decide +kernel
theorem tyJ9_ok : ∀ k, k < 0 → parseFieldDescriptor (TJ9 k).2.2.1 = some (tyJ9 k) := by decide +kernel
abbrev cJ9_abs_0f7a4 : ByteArray := prog_12_method_59_code
def yJ9_abs_0f7a4 : MethodName := ⟨RJ9, "abs", "(I)I"⟩
abbrev cJ9_max_7cf53 : ByteArray := prog_12_method_65_code
def yJ9_max_7cf53 : MethodName := ⟨RJ9, "max", "(II)I"⟩
abbrev cJ9_min_7cf53 : ByteArray := prog_12_method_69_code
def yJ9_min_7cf53 : MethodName := ⟨RJ9, "min", "(II)I"⟩
def RL : String := "FewWaysLaw"
abbrev cL_law : ByteArray := code
def yL_law : MethodName := ⟨RL, "law", "([I)Z"⟩
abbrev vwCl : List vw_C := [(RX0, TX0, 1), (RX1, TX1, 4), (RX2, TX2, 7), (RX3, TX3, 2), (RX4, TX4, 4), (RX5, TX5, 1), (RX6, TX6, 2), (RX7, TX7, 7), (RX8, TX8, 10)]
/-- the good words of the tables: those that a callee may ask -/
def okW : List Cond := lw_tbl.filter goodWord
theorem okW_tbl {w : Cond} (h : w ∈ okW) : w ∈ lw_tbl := (List.mem_filter.mp h).1
theorem okW_good {w : Cond} (h : w ∈ okW) : goodWord w = true := (List.mem_filter.mp h).2
theorem okm {w : Cond} {i : Nat} (h : lw_tbl[i]? = some w) (hg : goodWord w = true) : w ∈ okW := List.mem_filter.mpr ⟨List.mem_of_getElem? h, hg⟩
end
section
theorem dX0_init_0 : decode cX0_init 0 = .ok (.aload_n 0, 1) := by decide +kernel
theorem dX0_init_1 : decode cX0_init 1 = .ok (.invokespecial 3, 3) := by decide +kernel
theorem dX0_init_4 : decode cX0_init 4 = .ok (.aload_n 0, 1) := by decide +kernel
theorem dX0_init_5 : decode cX0_init 5 = .ok (.aload_n 1, 1) := by decide +kernel
theorem dX0_init_6 : decode cX0_init 6 = .ok (.putfield 9, 3) := by decide +kernel
theorem dX0_init_9 : decode cX0_init 9 = .ok (.return_, 1) := by decide +kernel
theorem dX0_nearest_0 : decode cX0_nearest 0 = .ok (.iconst 0, 1) := by decide +kernel
theorem dX0_nearest_1 : decode cX0_nearest 1 = .ok (.istore_n 3, 1) := by decide +kernel
theorem dX0_nearest_2 : decode cX0_nearest 2 = .ok (.iconst 0, 1) := by decide +kernel
theorem dX0_nearest_3 : decode cX0_nearest 3 = .ok (.istore 4, 2) := by decide +kernel
theorem dX0_nearest_5 : decode cX0_nearest 5 = .ok (.iconst 1, 1) := by decide +kernel
theorem dX0_nearest_6 : decode cX0_nearest 6 = .ok (.istore 5, 2) := by decide +kernel
theorem dX0_nearest_8 : decode cX0_nearest 8 = .ok (.iload 5, 2) := by decide +kernel
theorem dX0_nearest_10 : decode cX0_nearest 10 = .ok (.iconst 1, 1) := by decide +kernel
theorem dX0_nearest_11 : decode cX0_nearest 11 = .ok (.aload_n 0, 1) := by decide +kernel
theorem dX0_nearest_12 : decode cX0_nearest 12 = .ok (.getfield 9, 3) := by decide +kernel
theorem dX0_nearest_15 : decode cX0_nearest 15 = .ok (.getfield 15, 3) := by decide +kernel
theorem dX0_nearest_18 : decode cX0_nearest 18 = .ok (.ishl, 1) := by decide +kernel
theorem dX0_nearest_19 : decode cX0_nearest 19 = .ok (.if_icmp .ge 45, 3) := by decide +kernel
theorem dX0_nearest_22 : decode cX0_nearest 22 = .ok (.iload 5, 2) := by decide +kernel
theorem dX0_nearest_24 : decode cX0_nearest 24 = .ok (.invokestatic 21, 3) := by decide +kernel
theorem dX0_nearest_27 : decode cX0_nearest 27 = .ok (.iload_n 1, 1) := by decide +kernel
theorem dX0_nearest_28 : decode cX0_nearest 28 = .ok (.if_icmp .ne 30, 3) := by decide +kernel
theorem dX0_nearest_31 : decode cX0_nearest 31 = .ok (.aload_n 0, 1) := by decide +kernel
theorem dX0_nearest_32 : decode cX0_nearest 32 = .ok (.iload 5, 2) := by decide +kernel
theorem dX0_nearest_34 : decode cX0_nearest 34 = .ok (.iload_n 2, 1) := by decide +kernel
theorem dX0_nearest_35 : decode cX0_nearest 35 = .ok (.invokevirtual 27, 3) := by decide +kernel
theorem dX0_nearest_38 : decode cX0_nearest 38 = .ok (.istore 6, 2) := by decide +kernel
theorem dX0_nearest_40 : decode cX0_nearest 40 = .ok (.iload_n 3, 1) := by decide +kernel
theorem dX0_nearest_41 : decode cX0_nearest 41 = .ok (.ifCond .eq 10, 3) := by decide +kernel
theorem dX0_nearest_44 : decode cX0_nearest 44 = .ok (.iload 6, 2) := by decide +kernel
theorem dX0_nearest_46 : decode cX0_nearest 46 = .ok (.iload 4, 2) := by decide +kernel
theorem dX0_nearest_48 : decode cX0_nearest 48 = .ok (.if_icmp .ge 10, 3) := by decide +kernel
theorem dX0_nearest_51 : decode cX0_nearest 51 = .ok (.iload 5, 2) := by decide +kernel
theorem dX0_nearest_53 : decode cX0_nearest 53 = .ok (.istore_n 3, 1) := by decide +kernel
theorem dX0_nearest_54 : decode cX0_nearest 54 = .ok (.iload 6, 2) := by decide +kernel
theorem dX0_nearest_56 : decode cX0_nearest 56 = .ok (.istore 4, 2) := by decide +kernel
theorem dX0_nearest_58 : decode cX0_nearest 58 = .ok (.iinc 5 1, 3) := by decide +kernel
theorem dX0_nearest_61 : decode cX0_nearest 61 = .ok (.goto (-53), 3) := by decide +kernel
theorem dX0_nearest_64 : decode cX0_nearest 64 = .ok (.iload_n 3, 1) := by decide +kernel
theorem dX0_nearest_65 : decode cX0_nearest 65 = .ok (.ireturn, 1) := by decide +kernel
theorem dX0_cost_0 : decode cX0_cost 0 = .ok (.iconst 0, 1) := by decide +kernel
theorem dX0_cost_1 : decode cX0_cost 1 = .ok (.istore_n 3, 1) := by decide +kernel
theorem dX0_cost_2 : decode cX0_cost 2 = .ok (.iconst 0, 1) := by decide +kernel
theorem dX0_cost_3 : decode cX0_cost 3 = .ok (.istore 4, 2) := by decide +kernel
theorem dX0_cost_5 : decode cX0_cost 5 = .ok (.iconst 0, 1) := by decide +kernel
theorem dX0_cost_6 : decode cX0_cost 6 = .ok (.istore 5, 2) := by decide +kernel
theorem dX0_cost_8 : decode cX0_cost 8 = .ok (.iload 5, 2) := by decide +kernel
theorem dX0_cost_10 : decode cX0_cost 10 = .ok (.aload_n 0, 1) := by decide +kernel
theorem dX0_cost_11 : decode cX0_cost 11 = .ok (.getfield 9, 3) := by decide +kernel
theorem dX0_cost_14 : decode cX0_cost 14 = .ok (.getfield 15, 3) := by decide +kernel
theorem dX0_cost_17 : decode cX0_cost 17 = .ok (.if_icmp .ge 32, 3) := by decide +kernel
theorem dX0_cost_20 : decode cX0_cost 20 = .ok (.aload_n 0, 1) := by decide +kernel
theorem dX0_cost_21 : decode cX0_cost 21 = .ok (.iload_n 1, 1) := by decide +kernel
theorem dX0_cost_22 : decode cX0_cost 22 = .ok (.iload 5, 2) := by decide +kernel
theorem dX0_cost_24 : decode cX0_cost 24 = .ok (.invokevirtual 31, 3) := by decide +kernel
theorem dX0_cost_27 : decode cX0_cost 27 = .ok (.istore 6, 2) := by decide +kernel
theorem dX0_cost_29 : decode cX0_cost 29 = .ok (.iload_n 3, 1) := by decide +kernel
theorem dX0_cost_30 : decode cX0_cost 30 = .ok (.iload 6, 2) := by decide +kernel
theorem dX0_cost_32 : decode cX0_cost 32 = .ok (.iadd, 1) := by decide +kernel
theorem dX0_cost_33 : decode cX0_cost 33 = .ok (.istore_n 3, 1) := by decide +kernel
theorem dX0_cost_34 : decode cX0_cost 34 = .ok (.iload 4, 2) := by decide +kernel
theorem dX0_cost_36 : decode cX0_cost 36 = .ok (.iload 6, 2) := by decide +kernel
theorem dX0_cost_38 : decode cX0_cost 38 = .ok (.invokestatic 35, 3) := by decide +kernel
theorem dX0_cost_41 : decode cX0_cost 41 = .ok (.istore 4, 2) := by decide +kernel
theorem dX0_cost_43 : decode cX0_cost 43 = .ok (.iinc 5 1, 3) := by decide +kernel
theorem dX0_cost_46 : decode cX0_cost 46 = .ok (.goto (-38), 3) := by decide +kernel
theorem dX0_cost_49 : decode cX0_cost 49 = .ok (.iload_n 2, 1) := by decide +kernel
theorem dX0_cost_50 : decode cX0_cost 50 = .ok (.ifCond .eq 7, 3) := by decide +kernel
theorem dX0_cost_53 : decode cX0_cost 53 = .ok (.iload_n 3, 1) := by decide +kernel
theorem dX0_cost_54 : decode cX0_cost 54 = .ok (.goto 5, 3) := by decide +kernel
theorem dX0_cost_57 : decode cX0_cost 57 = .ok (.iload 4, 2) := by decide +kernel
theorem dX0_cost_59 : decode cX0_cost 59 = .ok (.ireturn, 1) := by decide +kernel
theorem dX0_wayToNearest_0 : decode cX0_wayToNearest 0 = .ok (.bipush 30, 2) := by decide +kernel
theorem dX0_wayToNearest_2 : decode cX0_wayToNearest 2 = .ok (.istore_n 3, 1) := by decide +kernel
theorem dX0_wayToNearest_3 : decode cX0_wayToNearest 3 = .ok (.iconst 0, 1) := by decide +kernel
theorem dX0_wayToNearest_4 : decode cX0_wayToNearest 4 = .ok (.istore 4, 2) := by decide +kernel
theorem dX0_wayToNearest_6 : decode cX0_wayToNearest 6 = .ok (.iload 4, 2) := by decide +kernel
theorem dX0_wayToNearest_8 : decode cX0_wayToNearest 8 = .ok (.aload_n 0, 1) := by decide +kernel
theorem dX0_wayToNearest_9 : decode cX0_wayToNearest 9 = .ok (.getfield 9, 3) := by decide +kernel
theorem dX0_wayToNearest_12 : decode cX0_wayToNearest 12 = .ok (.getfield 15, 3) := by decide +kernel
theorem dX0_wayToNearest_15 : decode cX0_wayToNearest 15 = .ok (.if_icmp .ge 33, 3) := by decide +kernel
theorem dX0_wayToNearest_18 : decode cX0_wayToNearest 18 = .ok (.iload_n 1, 1) := by decide +kernel
theorem dX0_wayToNearest_19 : decode cX0_wayToNearest 19 = .ok (.iload 4, 2) := by decide +kernel
theorem dX0_wayToNearest_21 : decode cX0_wayToNearest 21 = .ok (.invokestatic 40, 3) := by decide +kernel
theorem dX0_wayToNearest_24 : decode cX0_wayToNearest 24 = .ok (.ifCond .eq 18, 3) := by decide +kernel
theorem dX0_wayToNearest_27 : decode cX0_wayToNearest 27 = .ok (.iload_n 3, 1) := by decide +kernel
theorem dX0_wayToNearest_28 : decode cX0_wayToNearest 28 = .ok (.aload_n 0, 1) := by decide +kernel
theorem dX0_wayToNearest_29 : decode cX0_wayToNearest 29 = .ok (.getfield 9, 3) := by decide +kernel
theorem dX0_wayToNearest_32 : decode cX0_wayToNearest 32 = .ok (.iload_n 2, 1) := by decide +kernel
theorem dX0_wayToNearest_33 : decode cX0_wayToNearest 33 = .ok (.iload 4, 2) := by decide +kernel
theorem dX0_wayToNearest_35 : decode cX0_wayToNearest 35 = .ok (.invokevirtual 44, 3) := by decide +kernel
theorem dX0_wayToNearest_38 : decode cX0_wayToNearest 38 = .ok (.invokestatic 47, 3) := by decide +kernel
theorem dX0_wayToNearest_41 : decode cX0_wayToNearest 41 = .ok (.istore_n 3, 1) := by decide +kernel
theorem dX0_wayToNearest_42 : decode cX0_wayToNearest 42 = .ok (.iinc 4 1, 3) := by decide +kernel
theorem dX0_wayToNearest_45 : decode cX0_wayToNearest 45 = .ok (.goto (-39), 3) := by decide +kernel
theorem dX0_wayToNearest_48 : decode cX0_wayToNearest 48 = .ok (.iload_n 3, 1) := by decide +kernel
theorem dX0_wayToNearest_49 : decode cX0_wayToNearest 49 = .ok (.ireturn, 1) := by decide +kernel
theorem dX1_init_0 : decode cX1_init 0 = .ok (.aload_n 0, 1) := by decide +kernel
theorem dX1_init_1 : decode cX1_init 1 = .ok (.invokespecial 5, 3) := by decide +kernel
theorem dX1_init_4 : decode cX1_init 4 = .ok (.aload_n 0, 1) := by decide +kernel
theorem dX1_init_5 : decode cX1_init 5 = .ok (.bipush 6, 2) := by decide +kernel
theorem dX1_init_7 : decode cX1_init 7 = .ok (.newarray .int, 2) := by decide +kernel
theorem dX1_init_9 : decode cX1_init 9 = .ok (.putfield 11, 3) := by decide +kernel
theorem dX1_init_12 : decode cX1_init 12 = .ok (.aload_n 0, 1) := by decide +kernel
theorem dX1_init_13 : decode cX1_init 13 = .ok (.aload_n 1, 1) := by decide +kernel
theorem dX1_init_14 : decode cX1_init 14 = .ok (.putfield 15, 3) := by decide +kernel
theorem dX1_init_17 : decode cX1_init 17 = .ok (.return_, 1) := by decide +kernel
theorem dX1_hasLaw_0 : decode cX1_hasLaw 0 = .ok (.iload_n 0, 1) := by decide +kernel
theorem dX1_hasLaw_1 : decode cX1_hasLaw 1 = .ok (.ifCond .lt 12, 3) := by decide +kernel
theorem dX1_hasLaw_4 : decode cX1_hasLaw 4 = .ok (.iload_n 0, 1) := by decide +kernel
theorem dX1_hasLaw_5 : decode cX1_hasLaw 5 = .ok (.iconst 3, 1) := by decide +kernel
theorem dX1_hasLaw_6 : decode cX1_hasLaw 6 = .ok (.if_icmp .gt 7, 3) := by decide +kernel
theorem dX1_hasLaw_9 : decode cX1_hasLaw 9 = .ok (.iconst 1, 1) := by decide +kernel
theorem dX1_hasLaw_10 : decode cX1_hasLaw 10 = .ok (.goto 4, 3) := by decide +kernel
theorem dX1_hasLaw_13 : decode cX1_hasLaw 13 = .ok (.iconst 0, 1) := by decide +kernel
theorem dX1_hasLaw_14 : decode cX1_hasLaw 14 = .ok (.ireturn, 1) := by decide +kernel
theorem dX1_judge_0 : decode cX1_judge 0 = .ok (.aload_n 0, 1) := by decide +kernel
theorem dX1_judge_1 : decode cX1_judge 1 = .ok (.bipush (-4), 2) := by decide +kernel
theorem dX1_judge_3 : decode cX1_judge 3 = .ok (.putfield 19, 3) := by decide +kernel
theorem dX1_judge_6 : decode cX1_judge 6 = .ok (.aload_n 0, 1) := by decide +kernel
theorem dX1_judge_7 : decode cX1_judge 7 = .ok (.iconst 0, 1) := by decide +kernel
theorem dX1_judge_8 : decode cX1_judge 8 = .ok (.putfield 23, 3) := by decide +kernel
theorem dX1_judge_11 : decode cX1_judge 11 = .ok (.iload_n 1, 1) := by decide +kernel
theorem dX1_judge_12 : decode cX1_judge 12 = .ok (.tableswitch 49 0 2 #[28, 35, 42], 28) := by decide +kernel
theorem dX1_judge_40 : decode cX1_judge 40 = .ok (.aload_n 0, 1) := by decide +kernel
theorem dX1_judge_41 : decode cX1_judge 41 = .ok (.invokevirtual 26, 3) := by decide +kernel
theorem dX1_judge_44 : decode cX1_judge 44 = .ok (.goto 25, 3) := by decide +kernel
theorem dX1_judge_47 : decode cX1_judge 47 = .ok (.aload_n 0, 1) := by decide +kernel
theorem dX1_judge_48 : decode cX1_judge 48 = .ok (.invokevirtual 29, 3) := by decide +kernel
theorem dX1_judge_51 : decode cX1_judge 51 = .ok (.goto 18, 3) := by decide +kernel
theorem dX1_judge_54 : decode cX1_judge 54 = .ok (.aload_n 0, 1) := by decide +kernel
theorem dX1_judge_55 : decode cX1_judge 55 = .ok (.invokevirtual 32, 3) := by decide +kernel
theorem dX1_judge_58 : decode cX1_judge 58 = .ok (.goto 11, 3) := by decide +kernel
theorem dX1_judge_61 : decode cX1_judge 61 = .ok (.aload_n 0, 1) := by decide +kernel
theorem dX1_judge_62 : decode cX1_judge 62 = .ok (.iconst 0, 1) := by decide +kernel
theorem dX1_judge_63 : decode cX1_judge 63 = .ok (.iconst 0, 1) := by decide +kernel
theorem dX1_judge_64 : decode cX1_judge 64 = .ok (.iconst 0, 1) := by decide +kernel
theorem dX1_judge_65 : decode cX1_judge 65 = .ok (.iconst 0, 1) := by decide +kernel
theorem dX1_judge_66 : decode cX1_judge 66 = .ok (.invokevirtual 35, 3) := by decide +kernel
theorem dX1_judge_69 : decode cX1_judge 69 = .ok (.return_, 1) := by decide +kernel
theorem dX1_note_0 : decode cX1_note 0 = .ok (.aload_n 0, 1) := by decide +kernel
theorem dX1_note_1 : decode cX1_note 1 = .ok (.getfield 23, 3) := by decide +kernel
theorem dX1_note_4 : decode cX1_note 4 = .ok (.ifCond .ne 8, 3) := by decide +kernel
theorem dX1_note_7 : decode cX1_note 7 = .ok (.aload_n 0, 1) := by decide +kernel
theorem dX1_note_8 : decode cX1_note 8 = .ok (.iload_n 1, 1) := by decide +kernel
theorem dX1_note_9 : decode cX1_note 9 = .ok (.putfield 19, 3) := by decide +kernel
theorem dX1_note_12 : decode cX1_note 12 = .ok (.aload_n 0, 1) := by decide +kernel
theorem dX1_note_13 : decode cX1_note 13 = .ok (.dup, 1) := by decide +kernel
theorem dX1_note_14 : decode cX1_note 14 = .ok (.getfield 23, 3) := by decide +kernel
theorem dX1_note_17 : decode cX1_note 17 = .ok (.iconst 1, 1) := by decide +kernel
theorem dX1_note_18 : decode cX1_note 18 = .ok (.iadd, 1) := by decide +kernel
theorem dX1_note_19 : decode cX1_note 19 = .ok (.putfield 23, 3) := by decide +kernel
theorem dX1_note_22 : decode cX1_note 22 = .ok (.return_, 1) := by decide +kernel
theorem dX1_judgeDetours_0 : decode cX1_judgeDetours 0 = .ok (.aload_n 0, 1) := by decide +kernel
theorem dX1_judgeDetours_1 : decode cX1_judgeDetours 1 = .ok (.getfield 15, 3) := by decide +kernel
theorem dX1_judgeDetours_4 : decode cX1_judgeDetours 4 = .ok (.getfield 39, 3) := by decide +kernel
theorem dX1_judgeDetours_7 : decode cX1_judgeDetours 7 = .ok (.istore_n 1, 1) := by decide +kernel
theorem dX1_judgeDetours_8 : decode cX1_judgeDetours 8 = .ok (.iconst 0, 1) := by decide +kernel
theorem dX1_judgeDetours_9 : decode cX1_judgeDetours 9 = .ok (.istore_n 2, 1) := by decide +kernel
theorem dX1_judgeDetours_10 : decode cX1_judgeDetours 10 = .ok (.iload_n 2, 1) := by decide +kernel
theorem dX1_judgeDetours_11 : decode cX1_judgeDetours 11 = .ok (.iload_n 1, 1) := by decide +kernel
theorem dX1_judgeDetours_12 : decode cX1_judgeDetours 12 = .ok (.if_icmp .ge 98, 3) := by decide +kernel
theorem dX1_judgeDetours_15 : decode cX1_judgeDetours 15 = .ok (.iconst 0, 1) := by decide +kernel
theorem dX1_judgeDetours_16 : decode cX1_judgeDetours 16 = .ok (.istore_n 3, 1) := by decide +kernel
theorem dX1_judgeDetours_17 : decode cX1_judgeDetours 17 = .ok (.iload_n 3, 1) := by decide +kernel
theorem dX1_judgeDetours_18 : decode cX1_judgeDetours 18 = .ok (.iload_n 1, 1) := by decide +kernel
theorem dX1_judgeDetours_19 : decode cX1_judgeDetours 19 = .ok (.if_icmp .ge 85, 3) := by decide +kernel
theorem dX1_judgeDetours_22 : decode cX1_judgeDetours 22 = .ok (.iload_n 2, 1) := by decide +kernel
theorem dX1_judgeDetours_23 : decode cX1_judgeDetours 23 = .ok (.iconst 1, 1) := by decide +kernel
theorem dX1_judgeDetours_24 : decode cX1_judgeDetours 24 = .ok (.iadd, 1) := by decide +kernel
theorem dX1_judgeDetours_25 : decode cX1_judgeDetours 25 = .ok (.istore 4, 2) := by decide +kernel
theorem dX1_judgeDetours_27 : decode cX1_judgeDetours 27 = .ok (.iload 4, 2) := by decide +kernel
theorem dX1_judgeDetours_29 : decode cX1_judgeDetours 29 = .ok (.iload_n 1, 1) := by decide +kernel
theorem dX1_judgeDetours_30 : decode cX1_judgeDetours 30 = .ok (.if_icmp .ge 68, 3) := by decide +kernel
theorem dX1_judgeDetours_33 : decode cX1_judgeDetours 33 = .ok (.iload_n 3, 1) := by decide +kernel
theorem dX1_judgeDetours_34 : decode cX1_judgeDetours 34 = .ok (.iload_n 2, 1) := by decide +kernel
theorem dX1_judgeDetours_35 : decode cX1_judgeDetours 35 = .ok (.if_icmp .eq 57, 3) := by decide +kernel
theorem dX1_judgeDetours_38 : decode cX1_judgeDetours 38 = .ok (.iload_n 3, 1) := by decide +kernel
theorem dX1_judgeDetours_39 : decode cX1_judgeDetours 39 = .ok (.iload 4, 2) := by decide +kernel
theorem dX1_judgeDetours_41 : decode cX1_judgeDetours 41 = .ok (.if_icmp .eq 51, 3) := by decide +kernel
theorem dX1_judgeDetours_44 : decode cX1_judgeDetours 44 = .ok (.aload_n 0, 1) := by decide +kernel
theorem dX1_judgeDetours_45 : decode cX1_judgeDetours 45 = .ok (.getfield 15, 3) := by decide +kernel
theorem dX1_judgeDetours_48 : decode cX1_judgeDetours 48 = .ok (.iload_n 2, 1) := by decide +kernel
theorem dX1_judgeDetours_49 : decode cX1_judgeDetours 49 = .ok (.iload 4, 2) := by decide +kernel
theorem dX1_judgeDetours_51 : decode cX1_judgeDetours 51 = .ok (.invokevirtual 44, 3) := by decide +kernel
theorem dX1_judgeDetours_54 : decode cX1_judgeDetours 54 = .ok (.aload_n 0, 1) := by decide +kernel
theorem dX1_judgeDetours_55 : decode cX1_judgeDetours 55 = .ok (.getfield 15, 3) := by decide +kernel
theorem dX1_judgeDetours_58 : decode cX1_judgeDetours 58 = .ok (.iload_n 2, 1) := by decide +kernel
theorem dX1_judgeDetours_59 : decode cX1_judgeDetours 59 = .ok (.iload_n 3, 1) := by decide +kernel
theorem dX1_judgeDetours_60 : decode cX1_judgeDetours 60 = .ok (.invokevirtual 44, 3) := by decide +kernel
theorem dX1_judgeDetours_63 : decode cX1_judgeDetours 63 = .ok (.aload_n 0, 1) := by decide +kernel
theorem dX1_judgeDetours_64 : decode cX1_judgeDetours 64 = .ok (.getfield 15, 3) := by decide +kernel
theorem dX1_judgeDetours_67 : decode cX1_judgeDetours 67 = .ok (.iload_n 3, 1) := by decide +kernel
theorem dX1_judgeDetours_68 : decode cX1_judgeDetours 68 = .ok (.iload 4, 2) := by decide +kernel
theorem dX1_judgeDetours_70 : decode cX1_judgeDetours 70 = .ok (.invokevirtual 44, 3) := by decide +kernel
theorem dX1_judgeDetours_73 : decode cX1_judgeDetours 73 = .ok (.iadd, 1) := by decide +kernel
theorem dX1_judgeDetours_74 : decode cX1_judgeDetours 74 = .ok (.if_icmp .le 18, 3) := by decide +kernel
theorem dX1_judgeDetours_77 : decode cX1_judgeDetours 77 = .ok (.aload_n 0, 1) := by decide +kernel
theorem dX1_judgeDetours_78 : decode cX1_judgeDetours 78 = .ok (.iload_n 2, 1) := by decide +kernel
theorem dX1_judgeDetours_79 : decode cX1_judgeDetours 79 = .ok (.bipush 6, 2) := by decide +kernel
theorem dX1_judgeDetours_81 : decode cX1_judgeDetours 81 = .ok (.ishl, 1) := by decide +kernel
theorem dX1_judgeDetours_82 : decode cX1_judgeDetours 82 = .ok (.iload_n 3, 1) := by decide +kernel
theorem dX1_judgeDetours_83 : decode cX1_judgeDetours 83 = .ok (.iconst 3, 1) := by decide +kernel
theorem dX1_judgeDetours_84 : decode cX1_judgeDetours 84 = .ok (.ishl, 1) := by decide +kernel
theorem dX1_judgeDetours_85 : decode cX1_judgeDetours 85 = .ok (.ior, 1) := by decide +kernel
theorem dX1_judgeDetours_86 : decode cX1_judgeDetours 86 = .ok (.iload 4, 2) := by decide +kernel
theorem dX1_judgeDetours_88 : decode cX1_judgeDetours 88 = .ok (.ior, 1) := by decide +kernel
theorem dX1_judgeDetours_89 : decode cX1_judgeDetours 89 = .ok (.invokevirtual 48, 3) := by decide +kernel
theorem dX1_judgeDetours_92 : decode cX1_judgeDetours 92 = .ok (.iinc 4 1, 3) := by decide +kernel
theorem dX1_judgeDetours_95 : decode cX1_judgeDetours 95 = .ok (.goto (-68), 3) := by decide +kernel
theorem dX1_judgeDetours_98 : decode cX1_judgeDetours 98 = .ok (.iinc 3 1, 3) := by decide +kernel
theorem dX1_judgeDetours_101 : decode cX1_judgeDetours 101 = .ok (.goto (-84), 3) := by decide +kernel
theorem dX1_judgeDetours_104 : decode cX1_judgeDetours 104 = .ok (.iinc 2 1, 3) := by decide +kernel
theorem dX1_judgeDetours_107 : decode cX1_judgeDetours 107 = .ok (.goto (-97), 3) := by decide +kernel
theorem dX1_judgeDetours_110 : decode cX1_judgeDetours 110 = .ok (.return_, 1) := by decide +kernel
theorem dX1_judgeTrees_0 : decode cX1_judgeTrees 0 = .ok (.aload_n 0, 1) := by decide +kernel
theorem dX1_judgeTrees_1 : decode cX1_judgeTrees 1 = .ok (.getfield 15, 3) := by decide +kernel
theorem dX1_judgeTrees_4 : decode cX1_judgeTrees 4 = .ok (.getfield 39, 3) := by decide +kernel
theorem dX1_judgeTrees_7 : decode cX1_judgeTrees 7 = .ok (.istore_n 1, 1) := by decide +kernel
theorem dX1_judgeTrees_8 : decode cX1_judgeTrees 8 = .ok (.iconst 0, 1) := by decide +kernel
theorem dX1_judgeTrees_9 : decode cX1_judgeTrees 9 = .ok (.istore_n 2, 1) := by decide +kernel
theorem dX1_judgeTrees_10 : decode cX1_judgeTrees 10 = .ok (.iload_n 2, 1) := by decide +kernel
theorem dX1_judgeTrees_11 : decode cX1_judgeTrees 11 = .ok (.iload_n 1, 1) := by decide +kernel
theorem dX1_judgeTrees_12 : decode cX1_judgeTrees 12 = .ok (.if_icmp .ge 93, 3) := by decide +kernel
theorem dX1_judgeTrees_15 : decode cX1_judgeTrees 15 = .ok (.iload_n 2, 1) := by decide +kernel
theorem dX1_judgeTrees_16 : decode cX1_judgeTrees 16 = .ok (.iconst 1, 1) := by decide +kernel
theorem dX1_judgeTrees_17 : decode cX1_judgeTrees 17 = .ok (.iadd, 1) := by decide +kernel
theorem dX1_judgeTrees_18 : decode cX1_judgeTrees 18 = .ok (.istore_n 3, 1) := by decide +kernel
theorem dX1_judgeTrees_19 : decode cX1_judgeTrees 19 = .ok (.iload_n 3, 1) := by decide +kernel
theorem dX1_judgeTrees_20 : decode cX1_judgeTrees 20 = .ok (.iload_n 1, 1) := by decide +kernel
theorem dX1_judgeTrees_21 : decode cX1_judgeTrees 21 = .ok (.if_icmp .ge 78, 3) := by decide +kernel
theorem dX1_judgeTrees_24 : decode cX1_judgeTrees 24 = .ok (.iload_n 3, 1) := by decide +kernel
theorem dX1_judgeTrees_25 : decode cX1_judgeTrees 25 = .ok (.iconst 1, 1) := by decide +kernel
theorem dX1_judgeTrees_26 : decode cX1_judgeTrees 26 = .ok (.iadd, 1) := by decide +kernel
theorem dX1_judgeTrees_27 : decode cX1_judgeTrees 27 = .ok (.istore 4, 2) := by decide +kernel
theorem dX1_judgeTrees_29 : decode cX1_judgeTrees 29 = .ok (.iload 4, 2) := by decide +kernel
theorem dX1_judgeTrees_31 : decode cX1_judgeTrees 31 = .ok (.iload_n 1, 1) := by decide +kernel
theorem dX1_judgeTrees_32 : decode cX1_judgeTrees 32 = .ok (.if_icmp .ge 61, 3) := by decide +kernel
theorem dX1_judgeTrees_35 : decode cX1_judgeTrees 35 = .ok (.iload 4, 2) := by decide +kernel
theorem dX1_judgeTrees_37 : decode cX1_judgeTrees 37 = .ok (.iconst 1, 1) := by decide +kernel
theorem dX1_judgeTrees_38 : decode cX1_judgeTrees 38 = .ok (.iadd, 1) := by decide +kernel
theorem dX1_judgeTrees_39 : decode cX1_judgeTrees 39 = .ok (.istore 5, 2) := by decide +kernel
theorem dX1_judgeTrees_41 : decode cX1_judgeTrees 41 = .ok (.iload 5, 2) := by decide +kernel
theorem dX1_judgeTrees_43 : decode cX1_judgeTrees 43 = .ok (.iload_n 1, 1) := by decide +kernel
theorem dX1_judgeTrees_44 : decode cX1_judgeTrees 44 = .ok (.if_icmp .ge 43, 3) := by decide +kernel
theorem dX1_judgeTrees_47 : decode cX1_judgeTrees 47 = .ok (.aload_n 0, 1) := by decide +kernel
theorem dX1_judgeTrees_48 : decode cX1_judgeTrees 48 = .ok (.iload_n 2, 1) := by decide +kernel
theorem dX1_judgeTrees_49 : decode cX1_judgeTrees 49 = .ok (.iload_n 3, 1) := by decide +kernel
theorem dX1_judgeTrees_50 : decode cX1_judgeTrees 50 = .ok (.iload 4, 2) := by decide +kernel
theorem dX1_judgeTrees_52 : decode cX1_judgeTrees 52 = .ok (.iload 5, 2) := by decide +kernel
theorem dX1_judgeTrees_54 : decode cX1_judgeTrees 54 = .ok (.invokevirtual 52, 3) := by decide +kernel
theorem dX1_judgeTrees_57 : decode cX1_judgeTrees 57 = .ok (.ifCond .eq 24, 3) := by decide +kernel
theorem dX1_judgeTrees_60 : decode cX1_judgeTrees 60 = .ok (.aload_n 0, 1) := by decide +kernel
theorem dX1_judgeTrees_61 : decode cX1_judgeTrees 61 = .ok (.iload_n 2, 1) := by decide +kernel
theorem dX1_judgeTrees_62 : decode cX1_judgeTrees 62 = .ok (.bipush 9, 2) := by decide +kernel
theorem dX1_judgeTrees_64 : decode cX1_judgeTrees 64 = .ok (.ishl, 1) := by decide +kernel
theorem dX1_judgeTrees_65 : decode cX1_judgeTrees 65 = .ok (.iload_n 3, 1) := by decide +kernel
theorem dX1_judgeTrees_66 : decode cX1_judgeTrees 66 = .ok (.bipush 6, 2) := by decide +kernel
theorem dX1_judgeTrees_68 : decode cX1_judgeTrees 68 = .ok (.ishl, 1) := by decide +kernel
theorem dX1_judgeTrees_69 : decode cX1_judgeTrees 69 = .ok (.ior, 1) := by decide +kernel
theorem dX1_judgeTrees_70 : decode cX1_judgeTrees 70 = .ok (.iload 4, 2) := by decide +kernel
theorem dX1_judgeTrees_72 : decode cX1_judgeTrees 72 = .ok (.iconst 3, 1) := by decide +kernel
theorem dX1_judgeTrees_73 : decode cX1_judgeTrees 73 = .ok (.ishl, 1) := by decide +kernel
theorem dX1_judgeTrees_74 : decode cX1_judgeTrees 74 = .ok (.ior, 1) := by decide +kernel
theorem dX1_judgeTrees_75 : decode cX1_judgeTrees 75 = .ok (.iload 5, 2) := by decide +kernel
theorem dX1_judgeTrees_77 : decode cX1_judgeTrees 77 = .ok (.ior, 1) := by decide +kernel
theorem dX1_judgeTrees_78 : decode cX1_judgeTrees 78 = .ok (.invokevirtual 48, 3) := by decide +kernel
theorem dX1_judgeTrees_81 : decode cX1_judgeTrees 81 = .ok (.iinc 5 1, 3) := by decide +kernel
theorem dX1_judgeTrees_84 : decode cX1_judgeTrees 84 = .ok (.goto (-43), 3) := by decide +kernel
theorem dX1_judgeTrees_87 : decode cX1_judgeTrees 87 = .ok (.iinc 4 1, 3) := by decide +kernel
theorem dX1_judgeTrees_90 : decode cX1_judgeTrees 90 = .ok (.goto (-61), 3) := by decide +kernel
theorem dX1_judgeTrees_93 : decode cX1_judgeTrees 93 = .ok (.iinc 3 1, 3) := by decide +kernel
theorem dX1_judgeTrees_96 : decode cX1_judgeTrees 96 = .ok (.goto (-77), 3) := by decide +kernel
theorem dX1_judgeTrees_99 : decode cX1_judgeTrees 99 = .ok (.iinc 2 1, 3) := by decide +kernel
theorem dX1_judgeTrees_102 : decode cX1_judgeTrees 102 = .ok (.goto (-92), 3) := by decide +kernel
theorem dX1_judgeTrees_105 : decode cX1_judgeTrees 105 = .ok (.return_, 1) := by decide +kernel
theorem dX1_sumsStickOut_0 : decode cX1_sumsStickOut 0 = .ok (.aload_n 0, 1) := by decide +kernel
theorem dX1_sumsStickOut_1 : decode cX1_sumsStickOut 1 = .ok (.getfield 15, 3) := by decide +kernel
theorem dX1_sumsStickOut_4 : decode cX1_sumsStickOut 4 = .ok (.iload_n 1, 1) := by decide +kernel
theorem dX1_sumsStickOut_5 : decode cX1_sumsStickOut 5 = .ok (.iload_n 2, 1) := by decide +kernel
theorem dX1_sumsStickOut_6 : decode cX1_sumsStickOut 6 = .ok (.invokevirtual 44, 3) := by decide +kernel
theorem dX1_sumsStickOut_9 : decode cX1_sumsStickOut 9 = .ok (.aload_n 0, 1) := by decide +kernel
theorem dX1_sumsStickOut_10 : decode cX1_sumsStickOut 10 = .ok (.getfield 15, 3) := by decide +kernel
theorem dX1_sumsStickOut_13 : decode cX1_sumsStickOut 13 = .ok (.iload_n 3, 1) := by decide +kernel
theorem dX1_sumsStickOut_14 : decode cX1_sumsStickOut 14 = .ok (.iload 4, 2) := by decide +kernel
theorem dX1_sumsStickOut_16 : decode cX1_sumsStickOut 16 = .ok (.invokevirtual 44, 3) := by decide +kernel
theorem dX1_sumsStickOut_19 : decode cX1_sumsStickOut 19 = .ok (.iadd, 1) := by decide +kernel
theorem dX1_sumsStickOut_20 : decode cX1_sumsStickOut 20 = .ok (.aload_n 0, 1) := by decide +kernel
theorem dX1_sumsStickOut_21 : decode cX1_sumsStickOut 21 = .ok (.getfield 15, 3) := by decide +kernel
theorem dX1_sumsStickOut_24 : decode cX1_sumsStickOut 24 = .ok (.iload_n 1, 1) := by decide +kernel
theorem dX1_sumsStickOut_25 : decode cX1_sumsStickOut 25 = .ok (.iload_n 3, 1) := by decide +kernel
theorem dX1_sumsStickOut_26 : decode cX1_sumsStickOut 26 = .ok (.invokevirtual 44, 3) := by decide +kernel
theorem dX1_sumsStickOut_29 : decode cX1_sumsStickOut 29 = .ok (.aload_n 0, 1) := by decide +kernel
theorem dX1_sumsStickOut_30 : decode cX1_sumsStickOut 30 = .ok (.getfield 15, 3) := by decide +kernel
theorem dX1_sumsStickOut_33 : decode cX1_sumsStickOut 33 = .ok (.iload_n 2, 1) := by decide +kernel
theorem dX1_sumsStickOut_34 : decode cX1_sumsStickOut 34 = .ok (.iload 4, 2) := by decide +kernel
theorem dX1_sumsStickOut_36 : decode cX1_sumsStickOut 36 = .ok (.invokevirtual 44, 3) := by decide +kernel
theorem dX1_sumsStickOut_39 : decode cX1_sumsStickOut 39 = .ok (.iadd, 1) := by decide +kernel
theorem dX1_sumsStickOut_40 : decode cX1_sumsStickOut 40 = .ok (.aload_n 0, 1) := by decide +kernel
theorem dX1_sumsStickOut_41 : decode cX1_sumsStickOut 41 = .ok (.getfield 15, 3) := by decide +kernel
theorem dX1_sumsStickOut_44 : decode cX1_sumsStickOut 44 = .ok (.iload_n 1, 1) := by decide +kernel
theorem dX1_sumsStickOut_45 : decode cX1_sumsStickOut 45 = .ok (.iload 4, 2) := by decide +kernel
theorem dX1_sumsStickOut_47 : decode cX1_sumsStickOut 47 = .ok (.invokevirtual 44, 3) := by decide +kernel
theorem dX1_sumsStickOut_50 : decode cX1_sumsStickOut 50 = .ok (.aload_n 0, 1) := by decide +kernel
theorem dX1_sumsStickOut_51 : decode cX1_sumsStickOut 51 = .ok (.getfield 15, 3) := by decide +kernel
theorem dX1_sumsStickOut_54 : decode cX1_sumsStickOut 54 = .ok (.iload_n 2, 1) := by decide +kernel
theorem dX1_sumsStickOut_55 : decode cX1_sumsStickOut 55 = .ok (.iload_n 3, 1) := by decide +kernel
theorem dX1_sumsStickOut_56 : decode cX1_sumsStickOut 56 = .ok (.invokevirtual 44, 3) := by decide +kernel
theorem dX1_sumsStickOut_59 : decode cX1_sumsStickOut 59 = .ok (.iadd, 1) := by decide +kernel
theorem dX1_sumsStickOut_60 : decode cX1_sumsStickOut 60 = .ok (.invokestatic 56, 3) := by decide +kernel
theorem dX1_sumsStickOut_63 : decode cX1_sumsStickOut 63 = .ok (.ireturn, 1) := by decide +kernel
theorem dX1_judgeNests_0 : decode cX1_judgeNests 0 = .ok (.aload_n 0, 1) := by decide +kernel
theorem dX1_judgeNests_1 : decode cX1_judgeNests 1 = .ok (.getfield 15, 3) := by decide +kernel
theorem dX1_judgeNests_4 : decode cX1_judgeNests 4 = .ok (.getfield 39, 3) := by decide +kernel
theorem dX1_judgeNests_7 : decode cX1_judgeNests 7 = .ok (.istore_n 1, 1) := by decide +kernel
theorem dX1_judgeNests_8 : decode cX1_judgeNests 8 = .ok (.iconst 0, 1) := by decide +kernel
theorem dX1_judgeNests_9 : decode cX1_judgeNests 9 = .ok (.istore_n 2, 1) := by decide +kernel
theorem dX1_judgeNests_10 : decode cX1_judgeNests 10 = .ok (.iload_n 2, 1) := by decide +kernel
theorem dX1_judgeNests_11 : decode cX1_judgeNests 11 = .ok (.iload_n 1, 1) := by decide +kernel
theorem dX1_judgeNests_12 : decode cX1_judgeNests 12 = .ok (.if_icmp .ge 91, 3) := by decide +kernel
theorem dX1_judgeNests_15 : decode cX1_judgeNests 15 = .ok (.iload_n 2, 1) := by decide +kernel
theorem dX1_judgeNests_16 : decode cX1_judgeNests 16 = .ok (.iconst 1, 1) := by decide +kernel
theorem dX1_judgeNests_17 : decode cX1_judgeNests 17 = .ok (.iadd, 1) := by decide +kernel
theorem dX1_judgeNests_18 : decode cX1_judgeNests 18 = .ok (.istore_n 3, 1) := by decide +kernel
theorem dX1_judgeNests_19 : decode cX1_judgeNests 19 = .ok (.iload_n 3, 1) := by decide +kernel
theorem dX1_judgeNests_20 : decode cX1_judgeNests 20 = .ok (.iload_n 1, 1) := by decide +kernel
theorem dX1_judgeNests_21 : decode cX1_judgeNests 21 = .ok (.if_icmp .ge 76, 3) := by decide +kernel
theorem dX1_judgeNests_24 : decode cX1_judgeNests 24 = .ok (.iload_n 3, 1) := by decide +kernel
theorem dX1_judgeNests_25 : decode cX1_judgeNests 25 = .ok (.iconst 1, 1) := by decide +kernel
theorem dX1_judgeNests_26 : decode cX1_judgeNests 26 = .ok (.iadd, 1) := by decide +kernel
theorem dX1_judgeNests_27 : decode cX1_judgeNests 27 = .ok (.istore 4, 2) := by decide +kernel
theorem dX1_judgeNests_29 : decode cX1_judgeNests 29 = .ok (.iload 4, 2) := by decide +kernel
theorem dX1_judgeNests_31 : decode cX1_judgeNests 31 = .ok (.iload_n 1, 1) := by decide +kernel
theorem dX1_judgeNests_32 : decode cX1_judgeNests 32 = .ok (.if_icmp .ge 59, 3) := by decide +kernel
theorem dX1_judgeNests_35 : decode cX1_judgeNests 35 = .ok (.aload_n 0, 1) := by decide +kernel
theorem dX1_judgeNests_36 : decode cX1_judgeNests 36 = .ok (.getfield 15, 3) := by decide +kernel
theorem dX1_judgeNests_39 : decode cX1_judgeNests 39 = .ok (.iload_n 2, 1) := by decide +kernel
theorem dX1_judgeNests_40 : decode cX1_judgeNests 40 = .ok (.iload_n 3, 1) := by decide +kernel
theorem dX1_judgeNests_41 : decode cX1_judgeNests 41 = .ok (.invokevirtual 44, 3) := by decide +kernel
theorem dX1_judgeNests_44 : decode cX1_judgeNests 44 = .ok (.aload_n 0, 1) := by decide +kernel
theorem dX1_judgeNests_45 : decode cX1_judgeNests 45 = .ok (.getfield 15, 3) := by decide +kernel
theorem dX1_judgeNests_48 : decode cX1_judgeNests 48 = .ok (.iload_n 2, 1) := by decide +kernel
theorem dX1_judgeNests_49 : decode cX1_judgeNests 49 = .ok (.iload 4, 2) := by decide +kernel
theorem dX1_judgeNests_51 : decode cX1_judgeNests 51 = .ok (.invokevirtual 44, 3) := by decide +kernel
theorem dX1_judgeNests_54 : decode cX1_judgeNests 54 = .ok (.aload_n 0, 1) := by decide +kernel
theorem dX1_judgeNests_55 : decode cX1_judgeNests 55 = .ok (.getfield 15, 3) := by decide +kernel
theorem dX1_judgeNests_58 : decode cX1_judgeNests 58 = .ok (.iload_n 3, 1) := by decide +kernel
theorem dX1_judgeNests_59 : decode cX1_judgeNests 59 = .ok (.iload 4, 2) := by decide +kernel
theorem dX1_judgeNests_61 : decode cX1_judgeNests 61 = .ok (.invokevirtual 44, 3) := by decide +kernel
theorem dX1_judgeNests_64 : decode cX1_judgeNests 64 = .ok (.invokestatic 56, 3) := by decide +kernel
theorem dX1_judgeNests_67 : decode cX1_judgeNests 67 = .ok (.ifCond .eq 18, 3) := by decide +kernel
theorem dX1_judgeNests_70 : decode cX1_judgeNests 70 = .ok (.aload_n 0, 1) := by decide +kernel
theorem dX1_judgeNests_71 : decode cX1_judgeNests 71 = .ok (.iload_n 2, 1) := by decide +kernel
theorem dX1_judgeNests_72 : decode cX1_judgeNests 72 = .ok (.bipush 6, 2) := by decide +kernel
theorem dX1_judgeNests_74 : decode cX1_judgeNests 74 = .ok (.ishl, 1) := by decide +kernel
theorem dX1_judgeNests_75 : decode cX1_judgeNests 75 = .ok (.iload_n 3, 1) := by decide +kernel
theorem dX1_judgeNests_76 : decode cX1_judgeNests 76 = .ok (.iconst 3, 1) := by decide +kernel
theorem dX1_judgeNests_77 : decode cX1_judgeNests 77 = .ok (.ishl, 1) := by decide +kernel
theorem dX1_judgeNests_78 : decode cX1_judgeNests 78 = .ok (.ior, 1) := by decide +kernel
theorem dX1_judgeNests_79 : decode cX1_judgeNests 79 = .ok (.iload 4, 2) := by decide +kernel
theorem dX1_judgeNests_81 : decode cX1_judgeNests 81 = .ok (.ior, 1) := by decide +kernel
theorem dX1_judgeNests_82 : decode cX1_judgeNests 82 = .ok (.invokevirtual 48, 3) := by decide +kernel
theorem dX1_judgeNests_85 : decode cX1_judgeNests 85 = .ok (.iinc 4 1, 3) := by decide +kernel
theorem dX1_judgeNests_88 : decode cX1_judgeNests 88 = .ok (.goto (-59), 3) := by decide +kernel
theorem dX1_judgeNests_91 : decode cX1_judgeNests 91 = .ok (.iinc 3 1, 3) := by decide +kernel
theorem dX1_judgeNests_94 : decode cX1_judgeNests 94 = .ok (.goto (-75), 3) := by decide +kernel
theorem dX1_judgeNests_97 : decode cX1_judgeNests 97 = .ok (.iinc 2 1, 3) := by decide +kernel
theorem dX1_judgeNests_100 : decode cX1_judgeNests 100 = .ok (.goto (-90), 3) := by decide +kernel
theorem dX1_judgeNests_103 : decode cX1_judgeNests 103 = .ok (.return_, 1) := by decide +kernel
theorem dX1_greatestIsAlone_0 : decode cX1_greatestIsAlone 0 = .ok (.iload_n 0, 1) := by decide +kernel
theorem dX1_greatestIsAlone_1 : decode cX1_greatestIsAlone 1 = .ok (.iload_n 1, 1) := by decide +kernel
theorem dX1_greatestIsAlone_2 : decode cX1_greatestIsAlone 2 = .ok (.iload_n 2, 1) := by decide +kernel
theorem dX1_greatestIsAlone_3 : decode cX1_greatestIsAlone 3 = .ok (.invokestatic 60, 3) := by decide +kernel
theorem dX1_greatestIsAlone_6 : decode cX1_greatestIsAlone 6 = .ok (.if_icmp .gt 21, 3) := by decide +kernel
theorem dX1_greatestIsAlone_9 : decode cX1_greatestIsAlone 9 = .ok (.iload_n 1, 1) := by decide +kernel
theorem dX1_greatestIsAlone_10 : decode cX1_greatestIsAlone 10 = .ok (.iload_n 0, 1) := by decide +kernel
theorem dX1_greatestIsAlone_11 : decode cX1_greatestIsAlone 11 = .ok (.iload_n 2, 1) := by decide +kernel
theorem dX1_greatestIsAlone_12 : decode cX1_greatestIsAlone 12 = .ok (.invokestatic 60, 3) := by decide +kernel
theorem dX1_greatestIsAlone_15 : decode cX1_greatestIsAlone 15 = .ok (.if_icmp .gt 12, 3) := by decide +kernel
theorem dX1_greatestIsAlone_18 : decode cX1_greatestIsAlone 18 = .ok (.iload_n 2, 1) := by decide +kernel
theorem dX1_greatestIsAlone_19 : decode cX1_greatestIsAlone 19 = .ok (.iload_n 0, 1) := by decide +kernel
theorem dX1_greatestIsAlone_20 : decode cX1_greatestIsAlone 20 = .ok (.iload_n 1, 1) := by decide +kernel
theorem dX1_greatestIsAlone_21 : decode cX1_greatestIsAlone 21 = .ok (.invokestatic 60, 3) := by decide +kernel
theorem dX1_greatestIsAlone_24 : decode cX1_greatestIsAlone 24 = .ok (.if_icmp .le 7, 3) := by decide +kernel
theorem dX1_greatestIsAlone_27 : decode cX1_greatestIsAlone 27 = .ok (.iconst 1, 1) := by decide +kernel
theorem dX1_greatestIsAlone_28 : decode cX1_greatestIsAlone 28 = .ok (.goto 4, 3) := by decide +kernel
theorem dX1_greatestIsAlone_31 : decode cX1_greatestIsAlone 31 = .ok (.iconst 0, 1) := by decide +kernel
theorem dX1_greatestIsAlone_32 : decode cX1_greatestIsAlone 32 = .ok (.ireturn, 1) := by decide +kernel
theorem dX1_judgeWeights_0 : decode cX1_judgeWeights 0 = .ok (.aload_n 0, 1) := by decide +kernel
theorem dX1_judgeWeights_1 : decode cX1_judgeWeights 1 = .ok (.iload_n 1, 1) := by decide +kernel
theorem dX1_judgeWeights_2 : decode cX1_judgeWeights 2 = .ok (.invokevirtual 65, 3) := by decide +kernel
theorem dX1_judgeWeights_5 : decode cX1_judgeWeights 5 = .ok (.istore 5, 2) := by decide +kernel
theorem dX1_judgeWeights_7 : decode cX1_judgeWeights 7 = .ok (.iload_n 1, 1) := by decide +kernel
theorem dX1_judgeWeights_8 : decode cX1_judgeWeights 8 = .ok (.aload_n 0, 1) := by decide +kernel
theorem dX1_judgeWeights_9 : decode cX1_judgeWeights 9 = .ok (.getfield 15, 3) := by decide +kernel
theorem dX1_judgeWeights_12 : decode cX1_judgeWeights 12 = .ok (.getfield 39, 3) := by decide +kernel
theorem dX1_judgeWeights_15 : decode cX1_judgeWeights 15 = .ok (.iconst 1, 1) := by decide +kernel
theorem dX1_judgeWeights_16 : decode cX1_judgeWeights 16 = .ok (.isub, 1) := by decide +kernel
theorem dX1_judgeWeights_17 : decode cX1_judgeWeights 17 = .ok (.if_icmp .lt 45, 3) := by decide +kernel
theorem dX1_judgeWeights_20 : decode cX1_judgeWeights 20 = .ok (.iconst 1, 1) := by decide +kernel
theorem dX1_judgeWeights_21 : decode cX1_judgeWeights 21 = .ok (.iload_n 3, 1) := by decide +kernel
theorem dX1_judgeWeights_22 : decode cX1_judgeWeights 22 = .ok (.isub, 1) := by decide +kernel
theorem dX1_judgeWeights_23 : decode cX1_judgeWeights 23 = .ok (.istore 6, 2) := by decide +kernel
theorem dX1_judgeWeights_25 : decode cX1_judgeWeights 25 = .ok (.iload 6, 2) := by decide +kernel
theorem dX1_judgeWeights_27 : decode cX1_judgeWeights 27 = .ok (.bipush (-2), 2) := by decide +kernel
theorem dX1_judgeWeights_29 : decode cX1_judgeWeights 29 = .ok (.if_icmp .lt 32, 3) := by decide +kernel
theorem dX1_judgeWeights_32 : decode cX1_judgeWeights 32 = .ok (.iload 6, 2) := by decide +kernel
theorem dX1_judgeWeights_34 : decode cX1_judgeWeights 34 = .ok (.iconst 2, 1) := by decide +kernel
theorem dX1_judgeWeights_35 : decode cX1_judgeWeights 35 = .ok (.if_icmp .gt 26, 3) := by decide +kernel
theorem dX1_judgeWeights_38 : decode cX1_judgeWeights 38 = .ok (.iload 4, 2) := by decide +kernel
theorem dX1_judgeWeights_40 : decode cX1_judgeWeights 40 = .ok (.iload 6, 2) := by decide +kernel
theorem dX1_judgeWeights_42 : decode cX1_judgeWeights 42 = .ok (.iload 5, 2) := by decide +kernel
theorem dX1_judgeWeights_44 : decode cX1_judgeWeights 44 = .ok (.imul, 1) := by decide +kernel
theorem dX1_judgeWeights_45 : decode cX1_judgeWeights 45 = .ok (.iadd, 1) := by decide +kernel
theorem dX1_judgeWeights_46 : decode cX1_judgeWeights 46 = .ok (.ifCond .le 15, 3) := by decide +kernel
theorem dX1_judgeWeights_49 : decode cX1_judgeWeights 49 = .ok (.aload_n 0, 1) := by decide +kernel
theorem dX1_judgeWeights_50 : decode cX1_judgeWeights 50 = .ok (.iload_n 2, 1) := by decide +kernel
theorem dX1_judgeWeights_51 : decode cX1_judgeWeights 51 = .ok (.iconst 5, 1) := by decide +kernel
theorem dX1_judgeWeights_52 : decode cX1_judgeWeights 52 = .ok (.imul, 1) := by decide +kernel
theorem dX1_judgeWeights_53 : decode cX1_judgeWeights 53 = .ok (.iload 6, 2) := by decide +kernel
theorem dX1_judgeWeights_55 : decode cX1_judgeWeights 55 = .ok (.iadd, 1) := by decide +kernel
theorem dX1_judgeWeights_56 : decode cX1_judgeWeights 56 = .ok (.iconst 2, 1) := by decide +kernel
theorem dX1_judgeWeights_57 : decode cX1_judgeWeights 57 = .ok (.iadd, 1) := by decide +kernel
theorem dX1_judgeWeights_58 : decode cX1_judgeWeights 58 = .ok (.invokevirtual 48, 3) := by decide +kernel
theorem dX1_judgeWeights_61 : decode cX1_judgeWeights 61 = .ok (.return_, 1) := by decide +kernel
theorem dX1_judgeWeights_62 : decode cX1_judgeWeights 62 = .ok (.bipush (-2), 2) := by decide +kernel
theorem dX1_judgeWeights_64 : decode cX1_judgeWeights 64 = .ok (.istore 6, 2) := by decide +kernel
theorem dX1_judgeWeights_66 : decode cX1_judgeWeights 66 = .ok (.iload 6, 2) := by decide +kernel
theorem dX1_judgeWeights_68 : decode cX1_judgeWeights 68 = .ok (.iconst 2, 1) := by decide +kernel
theorem dX1_judgeWeights_69 : decode cX1_judgeWeights 69 = .ok (.if_icmp .gt 48, 3) := by decide +kernel
theorem dX1_judgeWeights_72 : decode cX1_judgeWeights 72 = .ok (.aload_n 0, 1) := by decide +kernel
theorem dX1_judgeWeights_73 : decode cX1_judgeWeights 73 = .ok (.getfield 11, 3) := by decide +kernel
theorem dX1_judgeWeights_76 : decode cX1_judgeWeights 76 = .ok (.iload_n 1, 1) := by decide +kernel
theorem dX1_judgeWeights_77 : decode cX1_judgeWeights 77 = .ok (.iload 6, 2) := by decide +kernel
theorem dX1_judgeWeights_79 : decode cX1_judgeWeights 79 = .ok (.iastore, 1) := by decide +kernel
theorem dX1_judgeWeights_80 : decode cX1_judgeWeights 80 = .ok (.iload_n 2, 1) := by decide +kernel
theorem dX1_judgeWeights_81 : decode cX1_judgeWeights 81 = .ok (.iconst 5, 1) := by decide +kernel
theorem dX1_judgeWeights_82 : decode cX1_judgeWeights 82 = .ok (.imul, 1) := by decide +kernel
theorem dX1_judgeWeights_83 : decode cX1_judgeWeights 83 = .ok (.iload 6, 2) := by decide +kernel
theorem dX1_judgeWeights_85 : decode cX1_judgeWeights 85 = .ok (.iadd, 1) := by decide +kernel
theorem dX1_judgeWeights_86 : decode cX1_judgeWeights 86 = .ok (.iconst 2, 1) := by decide +kernel
theorem dX1_judgeWeights_87 : decode cX1_judgeWeights 87 = .ok (.iadd, 1) := by decide +kernel
theorem dX1_judgeWeights_88 : decode cX1_judgeWeights 88 = .ok (.istore 7, 2) := by decide +kernel
theorem dX1_judgeWeights_90 : decode cX1_judgeWeights 90 = .ok (.aload_n 0, 1) := by decide +kernel
theorem dX1_judgeWeights_91 : decode cX1_judgeWeights 91 = .ok (.iload_n 1, 1) := by decide +kernel
theorem dX1_judgeWeights_92 : decode cX1_judgeWeights 92 = .ok (.iconst 1, 1) := by decide +kernel
theorem dX1_judgeWeights_93 : decode cX1_judgeWeights 93 = .ok (.iadd, 1) := by decide +kernel
theorem dX1_judgeWeights_94 : decode cX1_judgeWeights 94 = .ok (.iload 7, 2) := by decide +kernel
theorem dX1_judgeWeights_96 : decode cX1_judgeWeights 96 = .ok (.iload_n 3, 1) := by decide +kernel
theorem dX1_judgeWeights_97 : decode cX1_judgeWeights 97 = .ok (.iload 6, 2) := by decide +kernel
theorem dX1_judgeWeights_99 : decode cX1_judgeWeights 99 = .ok (.iadd, 1) := by decide +kernel
theorem dX1_judgeWeights_100 : decode cX1_judgeWeights 100 = .ok (.iload 4, 2) := by decide +kernel
theorem dX1_judgeWeights_102 : decode cX1_judgeWeights 102 = .ok (.iload 6, 2) := by decide +kernel
theorem dX1_judgeWeights_104 : decode cX1_judgeWeights 104 = .ok (.iload 5, 2) := by decide +kernel
theorem dX1_judgeWeights_106 : decode cX1_judgeWeights 106 = .ok (.imul, 1) := by decide +kernel
theorem dX1_judgeWeights_107 : decode cX1_judgeWeights 107 = .ok (.iadd, 1) := by decide +kernel
theorem dX1_judgeWeights_108 : decode cX1_judgeWeights 108 = .ok (.invokevirtual 35, 3) := by decide +kernel
theorem dX1_judgeWeights_111 : decode cX1_judgeWeights 111 = .ok (.iinc 6 1, 3) := by decide +kernel
theorem dX1_judgeWeights_114 : decode cX1_judgeWeights 114 = .ok (.goto (-48), 3) := by decide +kernel
theorem dX1_judgeWeights_117 : decode cX1_judgeWeights 117 = .ok (.return_, 1) := by decide +kernel
theorem dX1_pullOn_0 : decode cX1_pullOn 0 = .ok (.iconst 0, 1) := by decide +kernel
theorem dX1_pullOn_1 : decode cX1_pullOn 1 = .ok (.istore_n 2, 1) := by decide +kernel
theorem dX1_pullOn_2 : decode cX1_pullOn 2 = .ok (.iconst 0, 1) := by decide +kernel
theorem dX1_pullOn_3 : decode cX1_pullOn 3 = .ok (.istore_n 3, 1) := by decide +kernel
theorem dX1_pullOn_4 : decode cX1_pullOn 4 = .ok (.iload_n 3, 1) := by decide +kernel
theorem dX1_pullOn_5 : decode cX1_pullOn 5 = .ok (.iload_n 1, 1) := by decide +kernel
theorem dX1_pullOn_6 : decode cX1_pullOn 6 = .ok (.if_icmp .ge 28, 3) := by decide +kernel
theorem dX1_pullOn_9 : decode cX1_pullOn 9 = .ok (.iload_n 2, 1) := by decide +kernel
theorem dX1_pullOn_10 : decode cX1_pullOn 10 = .ok (.aload_n 0, 1) := by decide +kernel
theorem dX1_pullOn_11 : decode cX1_pullOn 11 = .ok (.getfield 11, 3) := by decide +kernel
theorem dX1_pullOn_14 : decode cX1_pullOn 14 = .ok (.iload_n 3, 1) := by decide +kernel
theorem dX1_pullOn_15 : decode cX1_pullOn 15 = .ok (.iaload, 1) := by decide +kernel
theorem dX1_pullOn_16 : decode cX1_pullOn 16 = .ok (.aload_n 0, 1) := by decide +kernel
theorem dX1_pullOn_17 : decode cX1_pullOn 17 = .ok (.getfield 15, 3) := by decide +kernel
theorem dX1_pullOn_20 : decode cX1_pullOn 20 = .ok (.iload_n 3, 1) := by decide +kernel
theorem dX1_pullOn_21 : decode cX1_pullOn 21 = .ok (.iload_n 1, 1) := by decide +kernel
theorem dX1_pullOn_22 : decode cX1_pullOn 22 = .ok (.invokevirtual 44, 3) := by decide +kernel
theorem dX1_pullOn_25 : decode cX1_pullOn 25 = .ok (.imul, 1) := by decide +kernel
theorem dX1_pullOn_26 : decode cX1_pullOn 26 = .ok (.iadd, 1) := by decide +kernel
theorem dX1_pullOn_27 : decode cX1_pullOn 27 = .ok (.istore_n 2, 1) := by decide +kernel
theorem dX1_pullOn_28 : decode cX1_pullOn 28 = .ok (.iinc 3 1, 3) := by decide +kernel
theorem dX1_pullOn_31 : decode cX1_pullOn 31 = .ok (.goto (-27), 3) := by decide +kernel
theorem dX1_pullOn_34 : decode cX1_pullOn 34 = .ok (.iload_n 2, 1) := by decide +kernel
theorem dX1_pullOn_35 : decode cX1_pullOn 35 = .ok (.ireturn, 1) := by decide +kernel
theorem dX2_init_0 : decode cX2_init 0 = .ok (.aload_n 0, 1) := by decide +kernel
theorem dX2_init_1 : decode cX2_init 1 = .ok (.invokespecial 3, 3) := by decide +kernel
theorem dX2_init_4 : decode cX2_init 4 = .ok (.aload_n 0, 1) := by decide +kernel
theorem dX2_init_5 : decode cX2_init 5 = .ok (.bipush 6, 2) := by decide +kernel
theorem dX2_init_7 : decode cX2_init 7 = .ok (.newarray .int, 2) := by decide +kernel
theorem dX2_init_9 : decode cX2_init 9 = .ok (.putfield 9, 3) := by decide +kernel
theorem dX2_init_12 : decode cX2_init 12 = .ok (.aload_n 0, 1) := by decide +kernel
theorem dX2_init_13 : decode cX2_init 13 = .ok (.aload_n 1, 1) := by decide +kernel
theorem dX2_init_14 : decode cX2_init 14 = .ok (.putfield 15, 3) := by decide +kernel
theorem dX2_init_17 : decode cX2_init 17 = .ok (.return_, 1) := by decide +kernel
theorem dX2_isOrder_0 : decode cX2_isOrder 0 = .ok (.iload_n 1, 1) := by decide +kernel
theorem dX2_isOrder_1 : decode cX2_isOrder 1 = .ok (.ifCond .lt 18, 3) := by decide +kernel
theorem dX2_isOrder_4 : decode cX2_isOrder 4 = .ok (.iload_n 1, 1) := by decide +kernel
theorem dX2_isOrder_5 : decode cX2_isOrder 5 = .ok (.iconst 1, 1) := by decide +kernel
theorem dX2_isOrder_6 : decode cX2_isOrder 6 = .ok (.iconst 3, 1) := by decide +kernel
theorem dX2_isOrder_7 : decode cX2_isOrder 7 = .ok (.aload_n 0, 1) := by decide +kernel
theorem dX2_isOrder_8 : decode cX2_isOrder 8 = .ok (.getfield 15, 3) := by decide +kernel
theorem dX2_isOrder_11 : decode cX2_isOrder 11 = .ok (.getfield 19, 3) := by decide +kernel
theorem dX2_isOrder_14 : decode cX2_isOrder 14 = .ok (.imul, 1) := by decide +kernel
theorem dX2_isOrder_15 : decode cX2_isOrder 15 = .ok (.ishl, 1) := by decide +kernel
theorem dX2_isOrder_16 : decode cX2_isOrder 16 = .ok (.if_icmp .lt 5, 3) := by decide +kernel
theorem dX2_isOrder_19 : decode cX2_isOrder 19 = .ok (.iconst 0, 1) := by decide +kernel
theorem dX2_isOrder_20 : decode cX2_isOrder 20 = .ok (.ireturn, 1) := by decide +kernel
theorem dX2_isOrder_21 : decode cX2_isOrder 21 = .ok (.iconst 0, 1) := by decide +kernel
theorem dX2_isOrder_22 : decode cX2_isOrder 22 = .ok (.istore_n 2, 1) := by decide +kernel
theorem dX2_isOrder_23 : decode cX2_isOrder 23 = .ok (.iconst 0, 1) := by decide +kernel
theorem dX2_isOrder_24 : decode cX2_isOrder 24 = .ok (.istore_n 3, 1) := by decide +kernel
theorem dX2_isOrder_25 : decode cX2_isOrder 25 = .ok (.iload_n 3, 1) := by decide +kernel
theorem dX2_isOrder_26 : decode cX2_isOrder 26 = .ok (.aload_n 0, 1) := by decide +kernel
theorem dX2_isOrder_27 : decode cX2_isOrder 27 = .ok (.getfield 15, 3) := by decide +kernel
theorem dX2_isOrder_30 : decode cX2_isOrder 30 = .ok (.getfield 19, 3) := by decide +kernel
theorem dX2_isOrder_33 : decode cX2_isOrder 33 = .ok (.if_icmp .ge 19, 3) := by decide +kernel
theorem dX2_isOrder_36 : decode cX2_isOrder 36 = .ok (.iload_n 2, 1) := by decide +kernel
theorem dX2_isOrder_37 : decode cX2_isOrder 37 = .ok (.iconst 1, 1) := by decide +kernel
theorem dX2_isOrder_38 : decode cX2_isOrder 38 = .ok (.iload_n 1, 1) := by decide +kernel
theorem dX2_isOrder_39 : decode cX2_isOrder 39 = .ok (.iload_n 3, 1) := by decide +kernel
theorem dX2_isOrder_40 : decode cX2_isOrder 40 = .ok (.invokestatic 25, 3) := by decide +kernel
theorem dX2_isOrder_43 : decode cX2_isOrder 43 = .ok (.ishl, 1) := by decide +kernel
theorem dX2_isOrder_44 : decode cX2_isOrder 44 = .ok (.ior, 1) := by decide +kernel
theorem dX2_isOrder_45 : decode cX2_isOrder 45 = .ok (.istore_n 2, 1) := by decide +kernel
theorem dX2_isOrder_46 : decode cX2_isOrder 46 = .ok (.iinc 3 1, 3) := by decide +kernel
theorem dX2_isOrder_49 : decode cX2_isOrder 49 = .ok (.goto (-24), 3) := by decide +kernel
theorem dX2_isOrder_52 : decode cX2_isOrder 52 = .ok (.iload_n 2, 1) := by decide +kernel
theorem dX2_isOrder_53 : decode cX2_isOrder 53 = .ok (.iconst 1, 1) := by decide +kernel
theorem dX2_isOrder_54 : decode cX2_isOrder 54 = .ok (.aload_n 0, 1) := by decide +kernel
theorem dX2_isOrder_55 : decode cX2_isOrder 55 = .ok (.getfield 15, 3) := by decide +kernel
theorem dX2_isOrder_58 : decode cX2_isOrder 58 = .ok (.getfield 19, 3) := by decide +kernel
theorem dX2_isOrder_61 : decode cX2_isOrder 61 = .ok (.ishl, 1) := by decide +kernel
theorem dX2_isOrder_62 : decode cX2_isOrder 62 = .ok (.iconst 1, 1) := by decide +kernel
theorem dX2_isOrder_63 : decode cX2_isOrder 63 = .ok (.isub, 1) := by decide +kernel
theorem dX2_isOrder_64 : decode cX2_isOrder 64 = .ok (.if_icmp .ne 7, 3) := by decide +kernel
theorem dX2_isOrder_67 : decode cX2_isOrder 67 = .ok (.iconst 1, 1) := by decide +kernel
theorem dX2_isOrder_68 : decode cX2_isOrder 68 = .ok (.goto 4, 3) := by decide +kernel
theorem dX2_isOrder_71 : decode cX2_isOrder 71 = .ok (.iconst 0, 1) := by decide +kernel
theorem dX2_isOrder_72 : decode cX2_isOrder 72 = .ok (.ireturn, 1) := by decide +kernel
theorem dX2_pointAt_0 : decode cX2_pointAt 0 = .ok (.iload_n 0, 1) := by decide +kernel
theorem dX2_pointAt_1 : decode cX2_pointAt 1 = .ok (.iconst 3, 1) := by decide +kernel
theorem dX2_pointAt_2 : decode cX2_pointAt 2 = .ok (.iload_n 1, 1) := by decide +kernel
theorem dX2_pointAt_3 : decode cX2_pointAt 3 = .ok (.imul, 1) := by decide +kernel
theorem dX2_pointAt_4 : decode cX2_pointAt 4 = .ok (.ishr, 1) := by decide +kernel
theorem dX2_pointAt_5 : decode cX2_pointAt 5 = .ok (.bipush 7, 2) := by decide +kernel
theorem dX2_pointAt_7 : decode cX2_pointAt 7 = .ok (.iand, 1) := by decide +kernel
theorem dX2_pointAt_8 : decode cX2_pointAt 8 = .ok (.ireturn, 1) := by decide +kernel
theorem dX2_lay_0 : decode cX2_lay 0 = .ok (.iconst 0, 1) := by decide +kernel
theorem dX2_lay_1 : decode cX2_lay 1 = .ok (.istore_n 2, 1) := by decide +kernel
theorem dX2_lay_2 : decode cX2_lay 2 = .ok (.iload_n 2, 1) := by decide +kernel
theorem dX2_lay_3 : decode cX2_lay 3 = .ok (.aload_n 0, 1) := by decide +kernel
theorem dX2_lay_4 : decode cX2_lay 4 = .ok (.getfield 15, 3) := by decide +kernel
theorem dX2_lay_7 : decode cX2_lay 7 = .ok (.getfield 19, 3) := by decide +kernel
theorem dX2_lay_10 : decode cX2_lay 10 = .ok (.if_icmp .ge 39, 3) := by decide +kernel
theorem dX2_lay_13 : decode cX2_lay 13 = .ok (.iload_n 1, 1) := by decide +kernel
theorem dX2_lay_14 : decode cX2_lay 14 = .ok (.iload_n 2, 1) := by decide +kernel
theorem dX2_lay_15 : decode cX2_lay 15 = .ok (.invokestatic 25, 3) := by decide +kernel
theorem dX2_lay_18 : decode cX2_lay 18 = .ok (.istore_n 3, 1) := by decide +kernel
theorem dX2_lay_19 : decode cX2_lay 19 = .ok (.aload_n 0, 1) := by decide +kernel
theorem dX2_lay_20 : decode cX2_lay 20 = .ok (.getfield 15, 3) := by decide +kernel
theorem dX2_lay_23 : decode cX2_lay 23 = .ok (.iload_n 3, 1) := by decide +kernel
theorem dX2_lay_24 : decode cX2_lay 24 = .ok (.invokevirtual 29, 3) := by decide +kernel
theorem dX2_lay_27 : decode cX2_lay 27 = .ok (.ifCond .eq 16, 3) := by decide +kernel
theorem dX2_lay_30 : decode cX2_lay 30 = .ok (.aload_n 0, 1) := by decide +kernel
theorem dX2_lay_31 : decode cX2_lay 31 = .ok (.getfield 9, 3) := by decide +kernel
theorem dX2_lay_34 : decode cX2_lay 34 = .ok (.iload_n 3, 1) := by decide +kernel
theorem dX2_lay_35 : decode cX2_lay 35 = .ok (.aload_n 0, 1) := by decide +kernel
theorem dX2_lay_36 : decode cX2_lay 36 = .ok (.iload_n 1, 1) := by decide +kernel
theorem dX2_lay_37 : decode cX2_lay 37 = .ok (.iload_n 2, 1) := by decide +kernel
theorem dX2_lay_38 : decode cX2_lay 38 = .ok (.iload_n 3, 1) := by decide +kernel
theorem dX2_lay_39 : decode cX2_lay 39 = .ok (.invokevirtual 33, 3) := by decide +kernel
theorem dX2_lay_42 : decode cX2_lay 42 = .ok (.iastore, 1) := by decide +kernel
theorem dX2_lay_43 : decode cX2_lay 43 = .ok (.iinc 2 1, 3) := by decide +kernel
theorem dX2_lay_46 : decode cX2_lay 46 = .ok (.goto (-44), 3) := by decide +kernel
theorem dX2_lay_49 : decode cX2_lay 49 = .ok (.aload_n 0, 1) := by decide +kernel
theorem dX2_lay_50 : decode cX2_lay 50 = .ok (.invokevirtual 37, 3) := by decide +kernel
theorem dX2_lay_53 : decode cX2_lay 53 = .ok (.return_, 1) := by decide +kernel
theorem dX2_leastPlace_0 : decode cX2_leastPlace 0 = .ok (.iconst 0, 1) := by decide +kernel
theorem dX2_leastPlace_1 : decode cX2_leastPlace 1 = .ok (.istore 4, 2) := by decide +kernel
theorem dX2_leastPlace_3 : decode cX2_leastPlace 3 = .ok (.iconst 0, 1) := by decide +kernel
theorem dX2_leastPlace_4 : decode cX2_leastPlace 4 = .ok (.istore 5, 2) := by decide +kernel
theorem dX2_leastPlace_6 : decode cX2_leastPlace 6 = .ok (.iload 5, 2) := by decide +kernel
theorem dX2_leastPlace_8 : decode cX2_leastPlace 8 = .ok (.iload_n 2, 1) := by decide +kernel
theorem dX2_leastPlace_9 : decode cX2_leastPlace 9 = .ok (.if_icmp .ge 54, 3) := by decide +kernel
theorem dX2_leastPlace_12 : decode cX2_leastPlace 12 = .ok (.iload_n 1, 1) := by decide +kernel
theorem dX2_leastPlace_13 : decode cX2_leastPlace 13 = .ok (.iload 5, 2) := by decide +kernel
theorem dX2_leastPlace_15 : decode cX2_leastPlace 15 = .ok (.invokestatic 25, 3) := by decide +kernel
theorem dX2_leastPlace_18 : decode cX2_leastPlace 18 = .ok (.istore 6, 2) := by decide +kernel
theorem dX2_leastPlace_20 : decode cX2_leastPlace 20 = .ok (.aload_n 0, 1) := by decide +kernel
theorem dX2_leastPlace_21 : decode cX2_leastPlace 21 = .ok (.getfield 15, 3) := by decide +kernel
theorem dX2_leastPlace_24 : decode cX2_leastPlace 24 = .ok (.iload 6, 2) := by decide +kernel
theorem dX2_leastPlace_26 : decode cX2_leastPlace 26 = .ok (.invokevirtual 29, 3) := by decide +kernel
theorem dX2_leastPlace_29 : decode cX2_leastPlace 29 = .ok (.ifCond .eq 28, 3) := by decide +kernel
theorem dX2_leastPlace_32 : decode cX2_leastPlace 32 = .ok (.iload 4, 2) := by decide +kernel
theorem dX2_leastPlace_34 : decode cX2_leastPlace 34 = .ok (.aload_n 0, 1) := by decide +kernel
theorem dX2_leastPlace_35 : decode cX2_leastPlace 35 = .ok (.getfield 9, 3) := by decide +kernel
theorem dX2_leastPlace_38 : decode cX2_leastPlace 38 = .ok (.iload 6, 2) := by decide +kernel
theorem dX2_leastPlace_40 : decode cX2_leastPlace 40 = .ok (.iaload, 1) := by decide +kernel
theorem dX2_leastPlace_41 : decode cX2_leastPlace 41 = .ok (.aload_n 0, 1) := by decide +kernel
theorem dX2_leastPlace_42 : decode cX2_leastPlace 42 = .ok (.getfield 15, 3) := by decide +kernel
theorem dX2_leastPlace_45 : decode cX2_leastPlace 45 = .ok (.iload 6, 2) := by decide +kernel
theorem dX2_leastPlace_47 : decode cX2_leastPlace 47 = .ok (.iload_n 3, 1) := by decide +kernel
theorem dX2_leastPlace_48 : decode cX2_leastPlace 48 = .ok (.invokevirtual 40, 3) := by decide +kernel
theorem dX2_leastPlace_51 : decode cX2_leastPlace 51 = .ok (.iadd, 1) := by decide +kernel
theorem dX2_leastPlace_52 : decode cX2_leastPlace 52 = .ok (.invokestatic 43, 3) := by decide +kernel
theorem dX2_leastPlace_55 : decode cX2_leastPlace 55 = .ok (.istore 4, 2) := by decide +kernel
theorem dX2_leastPlace_57 : decode cX2_leastPlace 57 = .ok (.iinc 5 1, 3) := by decide +kernel
theorem dX2_leastPlace_60 : decode cX2_leastPlace 60 = .ok (.goto (-54), 3) := by decide +kernel
theorem dX2_leastPlace_63 : decode cX2_leastPlace 63 = .ok (.iload 4, 2) := by decide +kernel
theorem dX2_leastPlace_65 : decode cX2_leastPlace 65 = .ok (.ireturn, 1) := by decide +kernel
theorem dX2_measureStretch_0 : decode cX2_measureStretch 0 = .ok (.aload_n 0, 1) := by decide +kernel
theorem dX2_measureStretch_1 : decode cX2_measureStretch 1 = .ok (.iconst 0, 1) := by decide +kernel
theorem dX2_measureStretch_2 : decode cX2_measureStretch 2 = .ok (.putfield 48, 3) := by decide +kernel
theorem dX2_measureStretch_5 : decode cX2_measureStretch 5 = .ok (.aload_n 0, 1) := by decide +kernel
theorem dX2_measureStretch_6 : decode cX2_measureStretch 6 = .ok (.iconst 1, 1) := by decide +kernel
theorem dX2_measureStretch_7 : decode cX2_measureStretch 7 = .ok (.putfield 51, 3) := by decide +kernel
theorem dX2_measureStretch_10 : decode cX2_measureStretch 10 = .ok (.iconst 0, 1) := by decide +kernel
theorem dX2_measureStretch_11 : decode cX2_measureStretch 11 = .ok (.istore_n 1, 1) := by decide +kernel
theorem dX2_measureStretch_12 : decode cX2_measureStretch 12 = .ok (.iload_n 1, 1) := by decide +kernel
theorem dX2_measureStretch_13 : decode cX2_measureStretch 13 = .ok (.aload_n 0, 1) := by decide +kernel
theorem dX2_measureStretch_14 : decode cX2_measureStretch 14 = .ok (.getfield 15, 3) := by decide +kernel
theorem dX2_measureStretch_17 : decode cX2_measureStretch 17 = .ok (.getfield 19, 3) := by decide +kernel
theorem dX2_measureStretch_20 : decode cX2_measureStretch 20 = .ok (.if_icmp .ge 89, 3) := by decide +kernel
theorem dX2_measureStretch_23 : decode cX2_measureStretch 23 = .ok (.iload_n 1, 1) := by decide +kernel
theorem dX2_measureStretch_24 : decode cX2_measureStretch 24 = .ok (.iconst 1, 1) := by decide +kernel
theorem dX2_measureStretch_25 : decode cX2_measureStretch 25 = .ok (.iadd, 1) := by decide +kernel
theorem dX2_measureStretch_26 : decode cX2_measureStretch 26 = .ok (.istore_n 2, 1) := by decide +kernel
theorem dX2_measureStretch_27 : decode cX2_measureStretch 27 = .ok (.iload_n 2, 1) := by decide +kernel
theorem dX2_measureStretch_28 : decode cX2_measureStretch 28 = .ok (.aload_n 0, 1) := by decide +kernel
theorem dX2_measureStretch_29 : decode cX2_measureStretch 29 = .ok (.getfield 15, 3) := by decide +kernel
theorem dX2_measureStretch_32 : decode cX2_measureStretch 32 = .ok (.getfield 19, 3) := by decide +kernel
theorem dX2_measureStretch_35 : decode cX2_measureStretch 35 = .ok (.if_icmp .ge 68, 3) := by decide +kernel
theorem dX2_measureStretch_38 : decode cX2_measureStretch 38 = .ok (.aload_n 0, 1) := by decide +kernel
theorem dX2_measureStretch_39 : decode cX2_measureStretch 39 = .ok (.getfield 15, 3) := by decide +kernel
theorem dX2_measureStretch_42 : decode cX2_measureStretch 42 = .ok (.iload_n 1, 1) := by decide +kernel
theorem dX2_measureStretch_43 : decode cX2_measureStretch 43 = .ok (.iload_n 2, 1) := by decide +kernel
theorem dX2_measureStretch_44 : decode cX2_measureStretch 44 = .ok (.invokevirtual 40, 3) := by decide +kernel
theorem dX2_measureStretch_47 : decode cX2_measureStretch 47 = .ok (.istore_n 3, 1) := by decide +kernel
theorem dX2_measureStretch_48 : decode cX2_measureStretch 48 = .ok (.aload_n 0, 1) := by decide +kernel
theorem dX2_measureStretch_49 : decode cX2_measureStretch 49 = .ok (.getfield 9, 3) := by decide +kernel
theorem dX2_measureStretch_52 : decode cX2_measureStretch 52 = .ok (.iload_n 1, 1) := by decide +kernel
theorem dX2_measureStretch_53 : decode cX2_measureStretch 53 = .ok (.iaload, 1) := by decide +kernel
theorem dX2_measureStretch_54 : decode cX2_measureStretch 54 = .ok (.aload_n 0, 1) := by decide +kernel
theorem dX2_measureStretch_55 : decode cX2_measureStretch 55 = .ok (.getfield 9, 3) := by decide +kernel
theorem dX2_measureStretch_58 : decode cX2_measureStretch 58 = .ok (.iload_n 2, 1) := by decide +kernel
theorem dX2_measureStretch_59 : decode cX2_measureStretch 59 = .ok (.iaload, 1) := by decide +kernel
theorem dX2_measureStretch_60 : decode cX2_measureStretch 60 = .ok (.isub, 1) := by decide +kernel
theorem dX2_measureStretch_61 : decode cX2_measureStretch 61 = .ok (.invokestatic 54, 3) := by decide +kernel
theorem dX2_measureStretch_64 : decode cX2_measureStretch 64 = .ok (.istore 4, 2) := by decide +kernel
theorem dX2_measureStretch_66 : decode cX2_measureStretch 66 = .ok (.iload_n 3, 1) := by decide +kernel
theorem dX2_measureStretch_67 : decode cX2_measureStretch 67 = .ok (.ifCond .le 30, 3) := by decide +kernel
theorem dX2_measureStretch_70 : decode cX2_measureStretch 70 = .ok (.iload 4, 2) := by decide +kernel
theorem dX2_measureStretch_72 : decode cX2_measureStretch 72 = .ok (.aload_n 0, 1) := by decide +kernel
theorem dX2_measureStretch_73 : decode cX2_measureStretch 73 = .ok (.getfield 51, 3) := by decide +kernel
theorem dX2_measureStretch_76 : decode cX2_measureStretch 76 = .ok (.imul, 1) := by decide +kernel
theorem dX2_measureStretch_77 : decode cX2_measureStretch 77 = .ok (.aload_n 0, 1) := by decide +kernel
theorem dX2_measureStretch_78 : decode cX2_measureStretch 78 = .ok (.getfield 48, 3) := by decide +kernel
theorem dX2_measureStretch_81 : decode cX2_measureStretch 81 = .ok (.iload_n 3, 1) := by decide +kernel
theorem dX2_measureStretch_82 : decode cX2_measureStretch 82 = .ok (.imul, 1) := by decide +kernel
theorem dX2_measureStretch_83 : decode cX2_measureStretch 83 = .ok (.if_icmp .le 14, 3) := by decide +kernel
theorem dX2_measureStretch_86 : decode cX2_measureStretch 86 = .ok (.aload_n 0, 1) := by decide +kernel
theorem dX2_measureStretch_87 : decode cX2_measureStretch 87 = .ok (.iload 4, 2) := by decide +kernel
theorem dX2_measureStretch_89 : decode cX2_measureStretch 89 = .ok (.putfield 48, 3) := by decide +kernel
theorem dX2_measureStretch_92 : decode cX2_measureStretch 92 = .ok (.aload_n 0, 1) := by decide +kernel
theorem dX2_measureStretch_93 : decode cX2_measureStretch 93 = .ok (.iload_n 3, 1) := by decide +kernel
theorem dX2_measureStretch_94 : decode cX2_measureStretch 94 = .ok (.putfield 51, 3) := by decide +kernel
theorem dX2_measureStretch_97 : decode cX2_measureStretch 97 = .ok (.iinc 2 1, 3) := by decide +kernel
theorem dX2_measureStretch_100 : decode cX2_measureStretch 100 = .ok (.goto (-73), 3) := by decide +kernel
theorem dX2_measureStretch_103 : decode cX2_measureStretch 103 = .ok (.iinc 1 1, 3) := by decide +kernel
theorem dX2_measureStretch_106 : decode cX2_measureStretch 106 = .ok (.goto (-94), 3) := by decide +kernel
theorem dX2_measureStretch_109 : decode cX2_measureStretch 109 = .ok (.return_, 1) := by decide +kernel
theorem dX2_stretchPart_0 : decode cX2_stretchPart 0 = .ok (.iload_n 1, 1) := by decide +kernel
theorem dX2_stretchPart_1 : decode cX2_stretchPart 1 = .ok (.iconst 1, 1) := by decide +kernel
theorem dX2_stretchPart_2 : decode cX2_stretchPart 2 = .ok (.if_icmp .ne 10, 3) := by decide +kernel
theorem dX2_stretchPart_5 : decode cX2_stretchPart 5 = .ok (.aload_n 0, 1) := by decide +kernel
theorem dX2_stretchPart_6 : decode cX2_stretchPart 6 = .ok (.getfield 48, 3) := by decide +kernel
theorem dX2_stretchPart_9 : decode cX2_stretchPart 9 = .ok (.goto 7, 3) := by decide +kernel
theorem dX2_stretchPart_12 : decode cX2_stretchPart 12 = .ok (.aload_n 0, 1) := by decide +kernel
theorem dX2_stretchPart_13 : decode cX2_stretchPart 13 = .ok (.getfield 51, 3) := by decide +kernel
theorem dX2_stretchPart_16 : decode cX2_stretchPart 16 = .ok (.istore_n 2, 1) := by decide +kernel
theorem dX2_stretchPart_17 : decode cX2_stretchPart 17 = .ok (.aload_n 0, 1) := by decide +kernel
theorem dX2_stretchPart_18 : decode cX2_stretchPart 18 = .ok (.getfield 51, 3) := by decide +kernel
theorem dX2_stretchPart_21 : decode cX2_stretchPart 21 = .ok (.istore_n 3, 1) := by decide +kernel
theorem dX2_stretchPart_22 : decode cX2_stretchPart 22 = .ok (.iload_n 3, 1) := by decide +kernel
theorem dX2_stretchPart_23 : decode cX2_stretchPart 23 = .ok (.iconst 1, 1) := by decide +kernel
theorem dX2_stretchPart_24 : decode cX2_stretchPart 24 = .ok (.if_icmp .le 31, 3) := by decide +kernel
theorem dX2_stretchPart_27 : decode cX2_stretchPart 27 = .ok (.aload_n 0, 1) := by decide +kernel
theorem dX2_stretchPart_28 : decode cX2_stretchPart 28 = .ok (.getfield 48, 3) := by decide +kernel
theorem dX2_stretchPart_31 : decode cX2_stretchPart 31 = .ok (.iload_n 3, 1) := by decide +kernel
theorem dX2_stretchPart_32 : decode cX2_stretchPart 32 = .ok (.irem, 1) := by decide +kernel
theorem dX2_stretchPart_33 : decode cX2_stretchPart 33 = .ok (.ifCond .ne 16, 3) := by decide +kernel
theorem dX2_stretchPart_36 : decode cX2_stretchPart 36 = .ok (.aload_n 0, 1) := by decide +kernel
theorem dX2_stretchPart_37 : decode cX2_stretchPart 37 = .ok (.getfield 51, 3) := by decide +kernel
theorem dX2_stretchPart_40 : decode cX2_stretchPart 40 = .ok (.iload_n 3, 1) := by decide +kernel
theorem dX2_stretchPart_41 : decode cX2_stretchPart 41 = .ok (.irem, 1) := by decide +kernel
theorem dX2_stretchPart_42 : decode cX2_stretchPart 42 = .ok (.ifCond .ne 7, 3) := by decide +kernel
theorem dX2_stretchPart_45 : decode cX2_stretchPart 45 = .ok (.iload_n 2, 1) := by decide +kernel
theorem dX2_stretchPart_46 : decode cX2_stretchPart 46 = .ok (.iload_n 3, 1) := by decide +kernel
theorem dX2_stretchPart_47 : decode cX2_stretchPart 47 = .ok (.idiv, 1) := by decide +kernel
theorem dX2_stretchPart_48 : decode cX2_stretchPart 48 = .ok (.ireturn, 1) := by decide +kernel
theorem dX2_stretchPart_49 : decode cX2_stretchPart 49 = .ok (.iinc 3 (-1), 3) := by decide +kernel
theorem dX2_stretchPart_52 : decode cX2_stretchPart 52 = .ok (.goto (-30), 3) := by decide +kernel
theorem dX2_stretchPart_55 : decode cX2_stretchPart 55 = .ok (.iload_n 2, 1) := by decide +kernel
theorem dX2_stretchPart_56 : decode cX2_stretchPart 56 = .ok (.ireturn, 1) := by decide +kernel
theorem dX2_leastStretched_0 : decode cX2_leastStretched 0 = .ok (.aload_n 0, 1) := by decide +kernel
theorem dX2_leastStretched_1 : decode cX2_leastStretched 1 = .ok (.bipush (-4), 2) := by decide +kernel
theorem dX2_leastStretched_3 : decode cX2_leastStretched 3 = .ok (.putfield 58, 3) := by decide +kernel
theorem dX2_leastStretched_6 : decode cX2_leastStretched 6 = .ok (.aload_n 0, 1) := by decide +kernel
theorem dX2_leastStretched_7 : decode cX2_leastStretched 7 = .ok (.iconst 0, 1) := by decide +kernel
theorem dX2_leastStretched_8 : decode cX2_leastStretched 8 = .ok (.iconst 0, 1) := by decide +kernel
theorem dX2_leastStretched_9 : decode cX2_leastStretched 9 = .ok (.iconst 0, 1) := by decide +kernel
theorem dX2_leastStretched_10 : decode cX2_leastStretched 10 = .ok (.invokevirtual 61, 3) := by decide +kernel
theorem dX2_leastStretched_13 : decode cX2_leastStretched 13 = .ok (.aload_n 0, 1) := by decide +kernel
theorem dX2_leastStretched_14 : decode cX2_leastStretched 14 = .ok (.getfield 58, 3) := by decide +kernel
theorem dX2_leastStretched_17 : decode cX2_leastStretched 17 = .ok (.ireturn, 1) := by decide +kernel
theorem dX2_tryOrders_0 : decode cX2_tryOrders 0 = .ok (.iload_n 1, 1) := by decide +kernel
theorem dX2_tryOrders_1 : decode cX2_tryOrders 1 = .ok (.aload_n 0, 1) := by decide +kernel
theorem dX2_tryOrders_2 : decode cX2_tryOrders 2 = .ok (.getfield 15, 3) := by decide +kernel
theorem dX2_tryOrders_5 : decode cX2_tryOrders 5 = .ok (.getfield 19, 3) := by decide +kernel
theorem dX2_tryOrders_8 : decode cX2_tryOrders 8 = .ok (.if_icmp .lt 14, 3) := by decide +kernel
theorem dX2_tryOrders_11 : decode cX2_tryOrders 11 = .ok (.aload_n 0, 1) := by decide +kernel
theorem dX2_tryOrders_12 : decode cX2_tryOrders 12 = .ok (.iload_n 3, 1) := by decide +kernel
theorem dX2_tryOrders_13 : decode cX2_tryOrders 13 = .ok (.invokevirtual 65, 3) := by decide +kernel
theorem dX2_tryOrders_16 : decode cX2_tryOrders 16 = .ok (.aload_n 0, 1) := by decide +kernel
theorem dX2_tryOrders_17 : decode cX2_tryOrders 17 = .ok (.iload_n 3, 1) := by decide +kernel
theorem dX2_tryOrders_18 : decode cX2_tryOrders 18 = .ok (.invokevirtual 69, 3) := by decide +kernel
theorem dX2_tryOrders_21 : decode cX2_tryOrders 21 = .ok (.return_, 1) := by decide +kernel
theorem dX2_tryOrders_22 : decode cX2_tryOrders 22 = .ok (.iconst 0, 1) := by decide +kernel
theorem dX2_tryOrders_23 : decode cX2_tryOrders 23 = .ok (.istore 4, 2) := by decide +kernel
theorem dX2_tryOrders_25 : decode cX2_tryOrders 25 = .ok (.iload 4, 2) := by decide +kernel
theorem dX2_tryOrders_27 : decode cX2_tryOrders 27 = .ok (.aload_n 0, 1) := by decide +kernel
theorem dX2_tryOrders_28 : decode cX2_tryOrders 28 = .ok (.getfield 15, 3) := by decide +kernel
theorem dX2_tryOrders_31 : decode cX2_tryOrders 31 = .ok (.getfield 19, 3) := by decide +kernel
theorem dX2_tryOrders_34 : decode cX2_tryOrders 34 = .ok (.if_icmp .ge 39, 3) := by decide +kernel
theorem dX2_tryOrders_37 : decode cX2_tryOrders 37 = .ok (.iload_n 2, 1) := by decide +kernel
theorem dX2_tryOrders_38 : decode cX2_tryOrders 38 = .ok (.iload 4, 2) := by decide +kernel
theorem dX2_tryOrders_40 : decode cX2_tryOrders 40 = .ok (.invokestatic 72, 3) := by decide +kernel
theorem dX2_tryOrders_43 : decode cX2_tryOrders 43 = .ok (.ifCond .ne 24, 3) := by decide +kernel
theorem dX2_tryOrders_46 : decode cX2_tryOrders 46 = .ok (.aload_n 0, 1) := by decide +kernel
theorem dX2_tryOrders_47 : decode cX2_tryOrders 47 = .ok (.iload_n 1, 1) := by decide +kernel
theorem dX2_tryOrders_48 : decode cX2_tryOrders 48 = .ok (.iconst 1, 1) := by decide +kernel
theorem dX2_tryOrders_49 : decode cX2_tryOrders 49 = .ok (.iadd, 1) := by decide +kernel
theorem dX2_tryOrders_50 : decode cX2_tryOrders 50 = .ok (.iload_n 2, 1) := by decide +kernel
theorem dX2_tryOrders_51 : decode cX2_tryOrders 51 = .ok (.iconst 1, 1) := by decide +kernel
theorem dX2_tryOrders_52 : decode cX2_tryOrders 52 = .ok (.iload 4, 2) := by decide +kernel
theorem dX2_tryOrders_54 : decode cX2_tryOrders 54 = .ok (.ishl, 1) := by decide +kernel
theorem dX2_tryOrders_55 : decode cX2_tryOrders 55 = .ok (.ior, 1) := by decide +kernel
theorem dX2_tryOrders_56 : decode cX2_tryOrders 56 = .ok (.iload_n 3, 1) := by decide +kernel
theorem dX2_tryOrders_57 : decode cX2_tryOrders 57 = .ok (.iload 4, 2) := by decide +kernel
theorem dX2_tryOrders_59 : decode cX2_tryOrders 59 = .ok (.iconst 3, 1) := by decide +kernel
theorem dX2_tryOrders_60 : decode cX2_tryOrders 60 = .ok (.iload_n 1, 1) := by decide +kernel
theorem dX2_tryOrders_61 : decode cX2_tryOrders 61 = .ok (.imul, 1) := by decide +kernel
theorem dX2_tryOrders_62 : decode cX2_tryOrders 62 = .ok (.ishl, 1) := by decide +kernel
theorem dX2_tryOrders_63 : decode cX2_tryOrders 63 = .ok (.ior, 1) := by decide +kernel
theorem dX2_tryOrders_64 : decode cX2_tryOrders 64 = .ok (.invokevirtual 61, 3) := by decide +kernel
theorem dX2_tryOrders_67 : decode cX2_tryOrders 67 = .ok (.iinc 4 1, 3) := by decide +kernel
theorem dX2_tryOrders_70 : decode cX2_tryOrders 70 = .ok (.goto (-45), 3) := by decide +kernel
theorem dX2_tryOrders_73 : decode cX2_tryOrders 73 = .ok (.return_, 1) := by decide +kernel
theorem dX2_keepIfBetter_0 : decode cX2_keepIfBetter 0 = .ok (.aload_n 0, 1) := by decide +kernel
theorem dX2_keepIfBetter_1 : decode cX2_keepIfBetter 1 = .ok (.getfield 58, 3) := by decide +kernel
theorem dX2_keepIfBetter_4 : decode cX2_keepIfBetter 4 = .ok (.bipush (-4), 2) := by decide +kernel
theorem dX2_keepIfBetter_6 : decode cX2_keepIfBetter 6 = .ok (.if_icmp .eq 24, 3) := by decide +kernel
theorem dX2_keepIfBetter_9 : decode cX2_keepIfBetter 9 = .ok (.aload_n 0, 1) := by decide +kernel
theorem dX2_keepIfBetter_10 : decode cX2_keepIfBetter 10 = .ok (.getfield 48, 3) := by decide +kernel
theorem dX2_keepIfBetter_13 : decode cX2_keepIfBetter 13 = .ok (.aload_n 0, 1) := by decide +kernel
theorem dX2_keepIfBetter_14 : decode cX2_keepIfBetter 14 = .ok (.getfield 76, 3) := by decide +kernel
theorem dX2_keepIfBetter_17 : decode cX2_keepIfBetter 17 = .ok (.imul, 1) := by decide +kernel
theorem dX2_keepIfBetter_18 : decode cX2_keepIfBetter 18 = .ok (.aload_n 0, 1) := by decide +kernel
theorem dX2_keepIfBetter_19 : decode cX2_keepIfBetter 19 = .ok (.getfield 79, 3) := by decide +kernel
theorem dX2_keepIfBetter_22 : decode cX2_keepIfBetter 22 = .ok (.aload_n 0, 1) := by decide +kernel
theorem dX2_keepIfBetter_23 : decode cX2_keepIfBetter 23 = .ok (.getfield 51, 3) := by decide +kernel
theorem dX2_keepIfBetter_26 : decode cX2_keepIfBetter 26 = .ok (.imul, 1) := by decide +kernel
theorem dX2_keepIfBetter_27 : decode cX2_keepIfBetter 27 = .ok (.if_icmp .ge 24, 3) := by decide +kernel
theorem dX2_keepIfBetter_30 : decode cX2_keepIfBetter 30 = .ok (.aload_n 0, 1) := by decide +kernel
theorem dX2_keepIfBetter_31 : decode cX2_keepIfBetter 31 = .ok (.iload_n 1, 1) := by decide +kernel
theorem dX2_keepIfBetter_32 : decode cX2_keepIfBetter 32 = .ok (.putfield 58, 3) := by decide +kernel
theorem dX2_keepIfBetter_35 : decode cX2_keepIfBetter 35 = .ok (.aload_n 0, 1) := by decide +kernel
theorem dX2_keepIfBetter_36 : decode cX2_keepIfBetter 36 = .ok (.aload_n 0, 1) := by decide +kernel
theorem dX2_keepIfBetter_37 : decode cX2_keepIfBetter 37 = .ok (.getfield 48, 3) := by decide +kernel
theorem dX2_keepIfBetter_40 : decode cX2_keepIfBetter 40 = .ok (.putfield 79, 3) := by decide +kernel
theorem dX2_keepIfBetter_43 : decode cX2_keepIfBetter 43 = .ok (.aload_n 0, 1) := by decide +kernel
theorem dX2_keepIfBetter_44 : decode cX2_keepIfBetter 44 = .ok (.aload_n 0, 1) := by decide +kernel
theorem dX2_keepIfBetter_45 : decode cX2_keepIfBetter 45 = .ok (.getfield 51, 3) := by decide +kernel
theorem dX2_keepIfBetter_48 : decode cX2_keepIfBetter 48 = .ok (.putfield 76, 3) := by decide +kernel
theorem dX2_keepIfBetter_51 : decode cX2_keepIfBetter 51 = .ok (.return_, 1) := by decide +kernel
theorem dX3_init_0 : decode cX3_init 0 = .ok (.aload_n 0, 1) := by decide +kernel
theorem dX3_init_1 : decode cX3_init 1 = .ok (.invokespecial 3, 3) := by decide +kernel
theorem dX3_init_4 : decode cX3_init 4 = .ok (.aload_n 0, 1) := by decide +kernel
theorem dX3_init_5 : decode cX3_init 5 = .ok (.bipush 32, 2) := by decide +kernel
theorem dX3_init_7 : decode cX3_init 7 = .ok (.newarray .long, 2) := by decide +kernel
theorem dX3_init_9 : decode cX3_init 9 = .ok (.putfield 9, 3) := by decide +kernel
theorem dX3_init_12 : decode cX3_init 12 = .ok (.aload_n 0, 1) := by decide +kernel
theorem dX3_init_13 : decode cX3_init 13 = .ok (.aload_n 1, 1) := by decide +kernel
theorem dX3_init_14 : decode cX3_init 14 = .ok (.putfield 15, 3) := by decide +kernel
theorem dX3_init_17 : decode cX3_init 17 = .ok (.return_, 1) := by decide +kernel
theorem dX3_noneIsNegative_0 : decode cX3_noneIsNegative 0 = .ok (.iconst 1, 1) := by decide +kernel
theorem dX3_noneIsNegative_1 : decode cX3_noneIsNegative 1 = .ok (.istore_n 1, 1) := by decide +kernel
theorem dX3_noneIsNegative_2 : decode cX3_noneIsNegative 2 = .ok (.iload_n 1, 1) := by decide +kernel
theorem dX3_noneIsNegative_3 : decode cX3_noneIsNegative 3 = .ok (.iconst 1, 1) := by decide +kernel
theorem dX3_noneIsNegative_4 : decode cX3_noneIsNegative 4 = .ok (.aload_n 0, 1) := by decide +kernel
theorem dX3_noneIsNegative_5 : decode cX3_noneIsNegative 5 = .ok (.getfield 15, 3) := by decide +kernel
theorem dX3_noneIsNegative_8 : decode cX3_noneIsNegative 8 = .ok (.getfield 19, 3) := by decide +kernel
theorem dX3_noneIsNegative_11 : decode cX3_noneIsNegative 11 = .ok (.iconst 1, 1) := by decide +kernel
theorem dX3_noneIsNegative_12 : decode cX3_noneIsNegative 12 = .ok (.isub, 1) := by decide +kernel
theorem dX3_noneIsNegative_13 : decode cX3_noneIsNegative 13 = .ok (.ishl, 1) := by decide +kernel
theorem dX3_noneIsNegative_14 : decode cX3_noneIsNegative 14 = .ok (.if_icmp .ge 21, 3) := by decide +kernel
theorem dX3_noneIsNegative_17 : decode cX3_noneIsNegative 17 = .ok (.aload_n 0, 1) := by decide +kernel
theorem dX3_noneIsNegative_18 : decode cX3_noneIsNegative 18 = .ok (.iload_n 1, 1) := by decide +kernel
theorem dX3_noneIsNegative_19 : decode cX3_noneIsNegative 19 = .ok (.invokevirtual 25, 3) := by decide +kernel
theorem dX3_noneIsNegative_22 : decode cX3_noneIsNegative 22 = .ok (.lconst 0, 1) := by decide +kernel
theorem dX3_noneIsNegative_23 : decode cX3_noneIsNegative 23 = .ok (.lcmp, 1) := by decide +kernel
theorem dX3_noneIsNegative_24 : decode cX3_noneIsNegative 24 = .ok (.ifCond .ge 5, 3) := by decide +kernel
theorem dX3_noneIsNegative_27 : decode cX3_noneIsNegative 27 = .ok (.iconst 0, 1) := by decide +kernel
theorem dX3_noneIsNegative_28 : decode cX3_noneIsNegative 28 = .ok (.ireturn, 1) := by decide +kernel
theorem dX3_noneIsNegative_29 : decode cX3_noneIsNegative 29 = .ok (.iinc 1 1, 3) := by decide +kernel
theorem dX3_noneIsNegative_32 : decode cX3_noneIsNegative 32 = .ok (.goto (-30), 3) := by decide +kernel
theorem dX3_noneIsNegative_35 : decode cX3_noneIsNegative 35 = .ok (.iconst 1, 1) := by decide +kernel
theorem dX3_noneIsNegative_36 : decode cX3_noneIsNegative 36 = .ok (.ireturn, 1) := by decide +kernel
theorem dX3_rank_0 : decode cX3_rank 0 = .ok (.iconst 0, 1) := by decide +kernel
theorem dX3_rank_1 : decode cX3_rank 1 = .ok (.istore_n 1, 1) := by decide +kernel
theorem dX3_rank_2 : decode cX3_rank 2 = .ok (.iconst 1, 1) := by decide +kernel
theorem dX3_rank_3 : decode cX3_rank 3 = .ok (.istore_n 2, 1) := by decide +kernel
theorem dX3_rank_4 : decode cX3_rank 4 = .ok (.iload_n 2, 1) := by decide +kernel
theorem dX3_rank_5 : decode cX3_rank 5 = .ok (.iconst 1, 1) := by decide +kernel
theorem dX3_rank_6 : decode cX3_rank 6 = .ok (.aload_n 0, 1) := by decide +kernel
theorem dX3_rank_7 : decode cX3_rank 7 = .ok (.getfield 15, 3) := by decide +kernel
theorem dX3_rank_10 : decode cX3_rank 10 = .ok (.getfield 19, 3) := by decide +kernel
theorem dX3_rank_13 : decode cX3_rank 13 = .ok (.iconst 1, 1) := by decide +kernel
theorem dX3_rank_14 : decode cX3_rank 14 = .ok (.isub, 1) := by decide +kernel
theorem dX3_rank_15 : decode cX3_rank 15 = .ok (.ishl, 1) := by decide +kernel
theorem dX3_rank_16 : decode cX3_rank 16 = .ok (.if_icmp .ge 28, 3) := by decide +kernel
theorem dX3_rank_19 : decode cX3_rank 19 = .ok (.aload_n 0, 1) := by decide +kernel
theorem dX3_rank_20 : decode cX3_rank 20 = .ok (.iload_n 2, 1) := by decide +kernel
theorem dX3_rank_21 : decode cX3_rank 21 = .ok (.invokevirtual 25, 3) := by decide +kernel
theorem dX3_rank_24 : decode cX3_rank 24 = .ok (.lconst 0, 1) := by decide +kernel
theorem dX3_rank_25 : decode cX3_rank 25 = .ok (.lcmp, 1) := by decide +kernel
theorem dX3_rank_26 : decode cX3_rank 26 = .ok (.ifCond .eq 12, 3) := by decide +kernel
theorem dX3_rank_29 : decode cX3_rank 29 = .ok (.iload_n 1, 1) := by decide +kernel
theorem dX3_rank_30 : decode cX3_rank 30 = .ok (.iload_n 2, 1) := by decide +kernel
theorem dX3_rank_31 : decode cX3_rank 31 = .ok (.invokestatic 29, 3) := by decide +kernel
theorem dX3_rank_34 : decode cX3_rank 34 = .ok (.invokestatic 35, 3) := by decide +kernel
theorem dX3_rank_37 : decode cX3_rank 37 = .ok (.istore_n 1, 1) := by decide +kernel
theorem dX3_rank_38 : decode cX3_rank 38 = .ok (.iinc 2 1, 3) := by decide +kernel
theorem dX3_rank_41 : decode cX3_rank 41 = .ok (.goto (-37), 3) := by decide +kernel
theorem dX3_rank_44 : decode cX3_rank 44 = .ok (.iload_n 1, 1) := by decide +kernel
theorem dX3_rank_45 : decode cX3_rank 45 = .ok (.ireturn, 1) := by decide +kernel
theorem dX3_determinant_0 : decode cX3_determinant 0 = .ok (.aload_n 0, 1) := by decide +kernel
theorem dX3_determinant_1 : decode cX3_determinant 1 = .ok (.getfield 9, 3) := by decide +kernel
theorem dX3_determinant_4 : decode cX3_determinant 4 = .ok (.iconst 0, 1) := by decide +kernel
theorem dX3_determinant_5 : decode cX3_determinant 5 = .ok (.lconst 1, 1) := by decide +kernel
theorem dX3_determinant_6 : decode cX3_determinant 6 = .ok (.lastore, 1) := by decide +kernel
theorem dX3_determinant_7 : decode cX3_determinant 7 = .ok (.iconst 1, 1) := by decide +kernel
theorem dX3_determinant_8 : decode cX3_determinant 8 = .ok (.istore_n 2, 1) := by decide +kernel
theorem dX3_determinant_9 : decode cX3_determinant 9 = .ok (.iload_n 2, 1) := by decide +kernel
theorem dX3_determinant_10 : decode cX3_determinant 10 = .ok (.iload_n 1, 1) := by decide +kernel
theorem dX3_determinant_11 : decode cX3_determinant 11 = .ok (.if_icmp .gt 36, 3) := by decide +kernel
theorem dX3_determinant_14 : decode cX3_determinant 14 = .ok (.iload_n 2, 1) := by decide +kernel
theorem dX3_determinant_15 : decode cX3_determinant 15 = .ok (.iload_n 1, 1) := by decide +kernel
theorem dX3_determinant_16 : decode cX3_determinant 16 = .ok (.iconst (-1), 1) := by decide +kernel
theorem dX3_determinant_17 : decode cX3_determinant 17 = .ok (.ixor, 1) := by decide +kernel
theorem dX3_determinant_18 : decode cX3_determinant 18 = .ok (.iand, 1) := by decide +kernel
theorem dX3_determinant_19 : decode cX3_determinant 19 = .ok (.ifCond .ne 22, 3) := by decide +kernel
theorem dX3_determinant_22 : decode cX3_determinant 22 = .ok (.aload_n 0, 1) := by decide +kernel
theorem dX3_determinant_23 : decode cX3_determinant 23 = .ok (.getfield 9, 3) := by decide +kernel
theorem dX3_determinant_26 : decode cX3_determinant 26 = .ok (.iload_n 2, 1) := by decide +kernel
theorem dX3_determinant_27 : decode cX3_determinant 27 = .ok (.aload_n 0, 1) := by decide +kernel
theorem dX3_determinant_28 : decode cX3_determinant 28 = .ok (.iload_n 1, 1) := by decide +kernel
theorem dX3_determinant_29 : decode cX3_determinant 29 = .ok (.iload_n 2, 1) := by decide +kernel
theorem dX3_determinant_30 : decode cX3_determinant 30 = .ok (.invokestatic 29, 3) := by decide +kernel
theorem dX3_determinant_33 : decode cX3_determinant 33 = .ok (.invokestatic 41, 3) := by decide +kernel
theorem dX3_determinant_36 : decode cX3_determinant 36 = .ok (.iload_n 2, 1) := by decide +kernel
theorem dX3_determinant_37 : decode cX3_determinant 37 = .ok (.invokevirtual 44, 3) := by decide +kernel
theorem dX3_determinant_40 : decode cX3_determinant 40 = .ok (.lastore, 1) := by decide +kernel
theorem dX3_determinant_41 : decode cX3_determinant 41 = .ok (.iinc 2 1, 3) := by decide +kernel
theorem dX3_determinant_44 : decode cX3_determinant 44 = .ok (.goto (-35), 3) := by decide +kernel
theorem dX3_determinant_47 : decode cX3_determinant 47 = .ok (.aload_n 0, 1) := by decide +kernel
theorem dX3_determinant_48 : decode cX3_determinant 48 = .ok (.getfield 9, 3) := by decide +kernel
theorem dX3_determinant_51 : decode cX3_determinant 51 = .ok (.iload_n 1, 1) := by decide +kernel
theorem dX3_determinant_52 : decode cX3_determinant 52 = .ok (.laload, 1) := by decide +kernel
theorem dX3_determinant_53 : decode cX3_determinant 53 = .ok (.lreturn, 1) := by decide +kernel
theorem dX3_expand_0 : decode cX3_expand 0 = .ok (.lconst 0, 1) := by decide +kernel
theorem dX3_expand_1 : decode cX3_expand 1 = .ok (.lstore_n 3, 1) := by decide +kernel
theorem dX3_expand_2 : decode cX3_expand 2 = .ok (.iconst 0, 1) := by decide +kernel
theorem dX3_expand_3 : decode cX3_expand 3 = .ok (.istore 5, 2) := by decide +kernel
theorem dX3_expand_5 : decode cX3_expand 5 = .ok (.iload 5, 2) := by decide +kernel
theorem dX3_expand_7 : decode cX3_expand 7 = .ok (.aload_n 0, 1) := by decide +kernel
theorem dX3_expand_8 : decode cX3_expand 8 = .ok (.getfield 15, 3) := by decide +kernel
theorem dX3_expand_11 : decode cX3_expand 11 = .ok (.getfield 19, 3) := by decide +kernel
theorem dX3_expand_14 : decode cX3_expand 14 = .ok (.iconst 1, 1) := by decide +kernel
theorem dX3_expand_15 : decode cX3_expand 15 = .ok (.isub, 1) := by decide +kernel
theorem dX3_expand_16 : decode cX3_expand 16 = .ok (.if_icmp .ge 79, 3) := by decide +kernel
theorem dX3_expand_19 : decode cX3_expand 19 = .ok (.iload_n 2, 1) := by decide +kernel
theorem dX3_expand_20 : decode cX3_expand 20 = .ok (.iload 5, 2) := by decide +kernel
theorem dX3_expand_22 : decode cX3_expand 22 = .ok (.invokestatic 48, 3) := by decide +kernel
theorem dX3_expand_25 : decode cX3_expand 25 = .ok (.ifCond .eq 64, 3) := by decide +kernel
theorem dX3_expand_28 : decode cX3_expand 28 = .ok (.aload_n 0, 1) := by decide +kernel
theorem dX3_expand_29 : decode cX3_expand 29 = .ok (.iload_n 1, 1) := by decide +kernel
theorem dX3_expand_30 : decode cX3_expand 30 = .ok (.iload 5, 2) := by decide +kernel
theorem dX3_expand_32 : decode cX3_expand 32 = .ok (.invokevirtual 52, 3) := by decide +kernel
theorem dX3_expand_35 : decode cX3_expand 35 = .ok (.aload_n 0, 1) := by decide +kernel
theorem dX3_expand_36 : decode cX3_expand 36 = .ok (.getfield 9, 3) := by decide +kernel
theorem dX3_expand_39 : decode cX3_expand 39 = .ok (.iload_n 2, 1) := by decide +kernel
theorem dX3_expand_40 : decode cX3_expand 40 = .ok (.iconst 1, 1) := by decide +kernel
theorem dX3_expand_41 : decode cX3_expand 41 = .ok (.iload 5, 2) := by decide +kernel
theorem dX3_expand_43 : decode cX3_expand 43 = .ok (.ishl, 1) := by decide +kernel
theorem dX3_expand_44 : decode cX3_expand 44 = .ok (.iconst (-1), 1) := by decide +kernel
theorem dX3_expand_45 : decode cX3_expand 45 = .ok (.ixor, 1) := by decide +kernel
theorem dX3_expand_46 : decode cX3_expand 46 = .ok (.iand, 1) := by decide +kernel
theorem dX3_expand_47 : decode cX3_expand 47 = .ok (.laload, 1) := by decide +kernel
theorem dX3_expand_48 : decode cX3_expand 48 = .ok (.lmul, 1) := by decide +kernel
theorem dX3_expand_49 : decode cX3_expand 49 = .ok (.lstore 6, 2) := by decide +kernel
theorem dX3_expand_51 : decode cX3_expand 51 = .ok (.iload_n 2, 1) := by decide +kernel
theorem dX3_expand_52 : decode cX3_expand 52 = .ok (.iload 5, 2) := by decide +kernel
theorem dX3_expand_54 : decode cX3_expand 54 = .ok (.iconst 1, 1) := by decide +kernel
theorem dX3_expand_55 : decode cX3_expand 55 = .ok (.iadd, 1) := by decide +kernel
theorem dX3_expand_56 : decode cX3_expand 56 = .ok (.ishr, 1) := by decide +kernel
theorem dX3_expand_57 : decode cX3_expand 57 = .ok (.invokestatic 29, 3) := by decide +kernel
theorem dX3_expand_60 : decode cX3_expand 60 = .ok (.iconst 1, 1) := by decide +kernel
theorem dX3_expand_61 : decode cX3_expand 61 = .ok (.iand, 1) := by decide +kernel
theorem dX3_expand_62 : decode cX3_expand 62 = .ok (.iconst 1, 1) := by decide +kernel
theorem dX3_expand_63 : decode cX3_expand 63 = .ok (.if_icmp .ne 7, 3) := by decide +kernel
theorem dX3_expand_66 : decode cX3_expand 66 = .ok (.iconst 1, 1) := by decide +kernel
theorem dX3_expand_67 : decode cX3_expand 67 = .ok (.goto 4, 3) := by decide +kernel
theorem dX3_expand_70 : decode cX3_expand 70 = .ok (.iconst 0, 1) := by decide +kernel
theorem dX3_expand_71 : decode cX3_expand 71 = .ok (.istore 8, 2) := by decide +kernel
theorem dX3_expand_73 : decode cX3_expand 73 = .ok (.lload_n 3, 1) := by decide +kernel
theorem dX3_expand_74 : decode cX3_expand 74 = .ok (.iload 8, 2) := by decide +kernel
theorem dX3_expand_76 : decode cX3_expand 76 = .ok (.ifCond .eq 9, 3) := by decide +kernel
theorem dX3_expand_79 : decode cX3_expand 79 = .ok (.lload 6, 2) := by decide +kernel
theorem dX3_expand_81 : decode cX3_expand 81 = .ok (.lneg, 1) := by decide +kernel
theorem dX3_expand_82 : decode cX3_expand 82 = .ok (.goto 5, 3) := by decide +kernel
theorem dX3_expand_85 : decode cX3_expand 85 = .ok (.lload 6, 2) := by decide +kernel
theorem dX3_expand_87 : decode cX3_expand 87 = .ok (.ladd, 1) := by decide +kernel
theorem dX3_expand_88 : decode cX3_expand 88 = .ok (.lstore_n 3, 1) := by decide +kernel
theorem dX3_expand_89 : decode cX3_expand 89 = .ok (.iinc 5 1, 3) := by decide +kernel
theorem dX3_expand_92 : decode cX3_expand 92 = .ok (.goto (-87), 3) := by decide +kernel
theorem dX3_expand_95 : decode cX3_expand 95 = .ok (.lload_n 3, 1) := by decide +kernel
theorem dX3_expand_96 : decode cX3_expand 96 = .ok (.lreturn, 1) := by decide +kernel
theorem dX3_product_0 : decode cX3_product 0 = .ok (.aload_n 0, 1) := by decide +kernel
theorem dX3_product_1 : decode cX3_product 1 = .ok (.iconst 0, 1) := by decide +kernel
theorem dX3_product_2 : decode cX3_product 2 = .ok (.iload_n 1, 1) := by decide +kernel
theorem dX3_product_3 : decode cX3_product 3 = .ok (.iconst 1, 1) := by decide +kernel
theorem dX3_product_4 : decode cX3_product 4 = .ok (.iadd, 1) := by decide +kernel
theorem dX3_product_5 : decode cX3_product 5 = .ok (.invokevirtual 55, 3) := by decide +kernel
theorem dX3_product_8 : decode cX3_product 8 = .ok (.aload_n 0, 1) := by decide +kernel
theorem dX3_product_9 : decode cX3_product 9 = .ok (.iconst 0, 1) := by decide +kernel
theorem dX3_product_10 : decode cX3_product 10 = .ok (.iload_n 2, 1) := by decide +kernel
theorem dX3_product_11 : decode cX3_product 11 = .ok (.iconst 1, 1) := by decide +kernel
theorem dX3_product_12 : decode cX3_product 12 = .ok (.iadd, 1) := by decide +kernel
theorem dX3_product_13 : decode cX3_product 13 = .ok (.invokevirtual 55, 3) := by decide +kernel
theorem dX3_product_16 : decode cX3_product 16 = .ok (.ladd, 1) := by decide +kernel
theorem dX3_product_17 : decode cX3_product 17 = .ok (.aload_n 0, 1) := by decide +kernel
theorem dX3_product_18 : decode cX3_product 18 = .ok (.iload_n 1, 1) := by decide +kernel
theorem dX3_product_19 : decode cX3_product 19 = .ok (.iconst 1, 1) := by decide +kernel
theorem dX3_product_20 : decode cX3_product 20 = .ok (.iadd, 1) := by decide +kernel
theorem dX3_product_21 : decode cX3_product 21 = .ok (.iload_n 2, 1) := by decide +kernel
theorem dX3_product_22 : decode cX3_product 22 = .ok (.iconst 1, 1) := by decide +kernel
theorem dX3_product_23 : decode cX3_product 23 = .ok (.iadd, 1) := by decide +kernel
theorem dX3_product_24 : decode cX3_product 24 = .ok (.invokevirtual 55, 3) := by decide +kernel
theorem dX3_product_27 : decode cX3_product 27 = .ok (.lsub, 1) := by decide +kernel
theorem dX3_product_28 : decode cX3_product 28 = .ok (.lreturn, 1) := by decide +kernel
theorem dX3_square_0 : decode cX3_square 0 = .ok (.aload_n 0, 1) := by decide +kernel
theorem dX3_square_1 : decode cX3_square 1 = .ok (.getfield 15, 3) := by decide +kernel
theorem dX3_square_4 : decode cX3_square 4 = .ok (.iload_n 1, 1) := by decide +kernel
theorem dX3_square_5 : decode cX3_square 5 = .ok (.iload_n 2, 1) := by decide +kernel
theorem dX3_square_6 : decode cX3_square 6 = .ok (.invokevirtual 58, 3) := by decide +kernel
theorem dX3_square_9 : decode cX3_square 9 = .ok (.i2l, 1) := by decide +kernel
theorem dX3_square_10 : decode cX3_square 10 = .ok (.lstore_n 3, 1) := by decide +kernel
theorem dX3_square_11 : decode cX3_square 11 = .ok (.lload_n 3, 1) := by decide +kernel
theorem dX3_square_12 : decode cX3_square 12 = .ok (.lload_n 3, 1) := by decide +kernel
theorem dX3_square_13 : decode cX3_square 13 = .ok (.lmul, 1) := by decide +kernel
theorem dX3_square_14 : decode cX3_square 14 = .ok (.lreturn, 1) := by decide +kernel
theorem dX3_memberAt_0 : decode cX3_memberAt 0 = .ok (.iconst 0, 1) := by decide +kernel
theorem dX3_memberAt_1 : decode cX3_memberAt 1 = .ok (.istore_n 2, 1) := by decide +kernel
theorem dX3_memberAt_2 : decode cX3_memberAt 2 = .ok (.iconst 0, 1) := by decide +kernel
theorem dX3_memberAt_3 : decode cX3_memberAt 3 = .ok (.istore_n 3, 1) := by decide +kernel
theorem dX3_memberAt_4 : decode cX3_memberAt 4 = .ok (.iload_n 3, 1) := by decide +kernel
theorem dX3_memberAt_5 : decode cX3_memberAt 5 = .ok (.bipush 6, 2) := by decide +kernel
theorem dX3_memberAt_7 : decode cX3_memberAt 7 = .ok (.if_icmp .ge 27, 3) := by decide +kernel
theorem dX3_memberAt_10 : decode cX3_memberAt 10 = .ok (.iload_n 0, 1) := by decide +kernel
theorem dX3_memberAt_11 : decode cX3_memberAt 11 = .ok (.iload_n 3, 1) := by decide +kernel
theorem dX3_memberAt_12 : decode cX3_memberAt 12 = .ok (.invokestatic 48, 3) := by decide +kernel
theorem dX3_memberAt_15 : decode cX3_memberAt 15 = .ok (.ifCond .eq 13, 3) := by decide +kernel
theorem dX3_memberAt_18 : decode cX3_memberAt 18 = .ok (.iinc 2 1, 3) := by decide +kernel
theorem dX3_memberAt_21 : decode cX3_memberAt 21 = .ok (.iload_n 2, 1) := by decide +kernel
theorem dX3_memberAt_22 : decode cX3_memberAt 22 = .ok (.iload_n 1, 1) := by decide +kernel
theorem dX3_memberAt_23 : decode cX3_memberAt 23 = .ok (.if_icmp .ne 5, 3) := by decide +kernel
theorem dX3_memberAt_26 : decode cX3_memberAt 26 = .ok (.iload_n 3, 1) := by decide +kernel
theorem dX3_memberAt_27 : decode cX3_memberAt 27 = .ok (.ireturn, 1) := by decide +kernel
theorem dX3_memberAt_28 : decode cX3_memberAt 28 = .ok (.iinc 3 1, 3) := by decide +kernel
theorem dX3_memberAt_31 : decode cX3_memberAt 31 = .ok (.goto (-27), 3) := by decide +kernel
theorem dX3_memberAt_34 : decode cX3_memberAt 34 = .ok (.iconst 0, 1) := by decide +kernel
theorem dX3_memberAt_35 : decode cX3_memberAt 35 = .ok (.ireturn, 1) := by decide +kernel
theorem dX4_init_0 : decode cX4_init 0 = .ok (.aload_n 0, 1) := by decide +kernel
theorem dX4_init_1 : decode cX4_init 1 = .ok (.invokespecial 3, 3) := by decide +kernel
theorem dX4_init_4 : decode cX4_init 4 = .ok (.aload_n 0, 1) := by decide +kernel
theorem dX4_init_5 : decode cX4_init 5 = .ok (.new 9, 3) := by decide +kernel
theorem dX4_init_8 : decode cX4_init 8 = .ok (.dup, 1) := by decide +kernel
theorem dX4_init_9 : decode cX4_init 9 = .ok (.invokespecial 11, 3) := by decide +kernel
end
section
theorem dX4_init_12 : decode cX4_init 12 = .ok (.putfield 12, 3) := by decide +kernel
theorem dX4_init_15 : decode cX4_init 15 = .ok (.aload_n 0, 1) := by decide +kernel
theorem dX4_init_16 : decode cX4_init 16 = .ok (.new 18, 3) := by decide +kernel
theorem dX4_init_19 : decode cX4_init 19 = .ok (.dup, 1) := by decide +kernel
theorem dX4_init_20 : decode cX4_init 20 = .ok (.aload_n 0, 1) := by decide +kernel
theorem dX4_init_21 : decode cX4_init 21 = .ok (.getfield 12, 3) := by decide +kernel
theorem dX4_init_24 : decode cX4_init 24 = .ok (.invokespecial 20, 3) := by decide +kernel
theorem dX4_init_27 : decode cX4_init 27 = .ok (.putfield 23, 3) := by decide +kernel
theorem dX4_init_30 : decode cX4_init 30 = .ok (.aload_n 0, 1) := by decide +kernel
theorem dX4_init_31 : decode cX4_init 31 = .ok (.bipush 64, 2) := by decide +kernel
theorem dX4_init_33 : decode cX4_init 33 = .ok (.newarray .int, 2) := by decide +kernel
theorem dX4_init_35 : decode cX4_init 35 = .ok (.putfield 27, 3) := by decide +kernel
theorem dX4_init_38 : decode cX4_init 38 = .ok (.aload_n 0, 1) := by decide +kernel
theorem dX4_init_39 : decode cX4_init 39 = .ok (.aload_n 1, 1) := by decide +kernel
theorem dX4_init_40 : decode cX4_init 40 = .ok (.putfield 31, 3) := by decide +kernel
theorem dX4_init_43 : decode cX4_init 43 = .ok (.return_, 1) := by decide +kernel
theorem dX4_takeAll_0 : decode cX4_takeAll 0 = .ok (.aload_n 0, 1) := by decide +kernel
theorem dX4_takeAll_1 : decode cX4_takeAll 1 = .ok (.getfield 12, 3) := by decide +kernel
theorem dX4_takeAll_4 : decode cX4_takeAll 4 = .ok (.aload_n 0, 1) := by decide +kernel
theorem dX4_takeAll_5 : decode cX4_takeAll 5 = .ok (.getfield 31, 3) := by decide +kernel
theorem dX4_takeAll_8 : decode cX4_takeAll 8 = .ok (.invokevirtual 34, 3) := by decide +kernel
theorem dX4_takeAll_11 : decode cX4_takeAll 11 = .ok (.aload_n 0, 1) := by decide +kernel
theorem dX4_takeAll_12 : decode cX4_takeAll 12 = .ok (.getfield 23, 3) := by decide +kernel
theorem dX4_takeAll_15 : decode cX4_takeAll 15 = .ok (.iconst 0, 1) := by decide +kernel
theorem dX4_takeAll_16 : decode cX4_takeAll 16 = .ok (.invokevirtual 37, 3) := by decide +kernel
theorem dX4_takeAll_19 : decode cX4_takeAll 19 = .ok (.aload_n 0, 1) := by decide +kernel
theorem dX4_takeAll_20 : decode cX4_takeAll 20 = .ok (.getfield 23, 3) := by decide +kernel
theorem dX4_takeAll_23 : decode cX4_takeAll 23 = .ok (.getfield 41, 3) := by decide +kernel
theorem dX4_takeAll_26 : decode cX4_takeAll 26 = .ok (.ifCond .ne 7, 3) := by decide +kernel
theorem dX4_takeAll_29 : decode cX4_takeAll 29 = .ok (.iconst 1, 1) := by decide +kernel
theorem dX4_takeAll_30 : decode cX4_takeAll 30 = .ok (.goto 4, 3) := by decide +kernel
theorem dX4_takeAll_33 : decode cX4_takeAll 33 = .ok (.iconst 0, 1) := by decide +kernel
theorem dX4_takeAll_34 : decode cX4_takeAll 34 = .ok (.istore_n 1, 1) := by decide +kernel
theorem dX4_takeAll_35 : decode cX4_takeAll 35 = .ok (.iconst 2, 1) := by decide +kernel
theorem dX4_takeAll_36 : decode cX4_takeAll 36 = .ok (.istore_n 2, 1) := by decide +kernel
theorem dX4_takeAll_37 : decode cX4_takeAll 37 = .ok (.iload_n 2, 1) := by decide +kernel
theorem dX4_takeAll_38 : decode cX4_takeAll 38 = .ok (.iconst 1, 1) := by decide +kernel
theorem dX4_takeAll_39 : decode cX4_takeAll 39 = .ok (.aload_n 0, 1) := by decide +kernel
theorem dX4_takeAll_40 : decode cX4_takeAll 40 = .ok (.getfield 12, 3) := by decide +kernel
theorem dX4_takeAll_43 : decode cX4_takeAll 43 = .ok (.getfield 45, 3) := by decide +kernel
theorem dX4_takeAll_46 : decode cX4_takeAll 46 = .ok (.ishl, 1) := by decide +kernel
theorem dX4_takeAll_47 : decode cX4_takeAll 47 = .ok (.if_icmp .ge 43, 3) := by decide +kernel
theorem dX4_takeAll_50 : decode cX4_takeAll 50 = .ok (.aload_n 0, 1) := by decide +kernel
theorem dX4_takeAll_51 : decode cX4_takeAll 51 = .ok (.getfield 27, 3) := by decide +kernel
theorem dX4_takeAll_54 : decode cX4_takeAll 54 = .ok (.iload_n 2, 1) := by decide +kernel
theorem dX4_takeAll_55 : decode cX4_takeAll 55 = .ok (.iload_n 1, 1) := by decide +kernel
theorem dX4_takeAll_56 : decode cX4_takeAll 56 = .ok (.ifCond .eq 11, 3) := by decide +kernel
theorem dX4_takeAll_59 : decode cX4_takeAll 59 = .ok (.aload_n 0, 1) := by decide +kernel
theorem dX4_takeAll_60 : decode cX4_takeAll 60 = .ok (.iload_n 2, 1) := by decide +kernel
theorem dX4_takeAll_61 : decode cX4_takeAll 61 = .ok (.invokevirtual 48, 3) := by decide +kernel
theorem dX4_takeAll_64 : decode cX4_takeAll 64 = .ok (.goto 4, 3) := by decide +kernel
theorem dX4_takeAll_67 : decode cX4_takeAll 67 = .ok (.iconst 0, 1) := by decide +kernel
theorem dX4_takeAll_68 : decode cX4_takeAll 68 = .ok (.iastore, 1) := by decide +kernel
theorem dX4_takeAll_69 : decode cX4_takeAll 69 = .ok (.aload_n 0, 1) := by decide +kernel
theorem dX4_takeAll_70 : decode cX4_takeAll 70 = .ok (.getfield 12, 3) := by decide +kernel
theorem dX4_takeAll_73 : decode cX4_takeAll 73 = .ok (.iload_n 2, 1) := by decide +kernel
theorem dX4_takeAll_74 : decode cX4_takeAll 74 = .ok (.aload_n 0, 1) := by decide +kernel
theorem dX4_takeAll_75 : decode cX4_takeAll 75 = .ok (.getfield 27, 3) := by decide +kernel
theorem dX4_takeAll_78 : decode cX4_takeAll 78 = .ok (.iload_n 2, 1) := by decide +kernel
theorem dX4_takeAll_79 : decode cX4_takeAll 79 = .ok (.iaload, 1) := by decide +kernel
theorem dX4_takeAll_80 : decode cX4_takeAll 80 = .ok (.ineg, 1) := by decide +kernel
theorem dX4_takeAll_81 : decode cX4_takeAll 81 = .ok (.invokevirtual 52, 3) := by decide +kernel
theorem dX4_takeAll_84 : decode cX4_takeAll 84 = .ok (.iinc 2 2, 3) := by decide +kernel
theorem dX4_takeAll_87 : decode cX4_takeAll 87 = .ok (.goto (-50), 3) := by decide +kernel
theorem dX4_takeAll_90 : decode cX4_takeAll 90 = .ok (.return_, 1) := by decide +kernel
theorem dX4_mostHalves_0 : decode cX4_mostHalves 0 = .ok (.bipush 60, 2) := by decide +kernel
theorem dX4_mostHalves_2 : decode cX4_mostHalves 2 = .ok (.istore_n 2, 1) := by decide +kernel
theorem dX4_mostHalves_3 : decode cX4_mostHalves 3 = .ok (.iconst 0, 1) := by decide +kernel
theorem dX4_mostHalves_4 : decode cX4_mostHalves 4 = .ok (.istore_n 3, 1) := by decide +kernel
theorem dX4_mostHalves_5 : decode cX4_mostHalves 5 = .ok (.iload_n 3, 1) := by decide +kernel
theorem dX4_mostHalves_6 : decode cX4_mostHalves 6 = .ok (.aload_n 0, 1) := by decide +kernel
theorem dX4_mostHalves_7 : decode cX4_mostHalves 7 = .ok (.getfield 12, 3) := by decide +kernel
theorem dX4_mostHalves_10 : decode cX4_mostHalves 10 = .ok (.getfield 45, 3) := by decide +kernel
theorem dX4_mostHalves_13 : decode cX4_mostHalves 13 = .ok (.if_icmp .ge 88, 3) := by decide +kernel
theorem dX4_mostHalves_16 : decode cX4_mostHalves 16 = .ok (.iconst 0, 1) := by decide +kernel
theorem dX4_mostHalves_17 : decode cX4_mostHalves 17 = .ok (.istore 4, 2) := by decide +kernel
theorem dX4_mostHalves_19 : decode cX4_mostHalves 19 = .ok (.iload 4, 2) := by decide +kernel
theorem dX4_mostHalves_21 : decode cX4_mostHalves 21 = .ok (.aload_n 0, 1) := by decide +kernel
theorem dX4_mostHalves_22 : decode cX4_mostHalves 22 = .ok (.getfield 12, 3) := by decide +kernel
theorem dX4_mostHalves_25 : decode cX4_mostHalves 25 = .ok (.getfield 45, 3) := by decide +kernel
theorem dX4_mostHalves_28 : decode cX4_mostHalves 28 = .ok (.if_icmp .ge 67, 3) := by decide +kernel
theorem dX4_mostHalves_31 : decode cX4_mostHalves 31 = .ok (.iload 4, 2) := by decide +kernel
theorem dX4_mostHalves_33 : decode cX4_mostHalves 33 = .ok (.istore 5, 2) := by decide +kernel
theorem dX4_mostHalves_35 : decode cX4_mostHalves 35 = .ok (.iload 5, 2) := by decide +kernel
theorem dX4_mostHalves_37 : decode cX4_mostHalves 37 = .ok (.aload_n 0, 1) := by decide +kernel
theorem dX4_mostHalves_38 : decode cX4_mostHalves 38 = .ok (.getfield 12, 3) := by decide +kernel
theorem dX4_mostHalves_41 : decode cX4_mostHalves 41 = .ok (.getfield 45, 3) := by decide +kernel
theorem dX4_mostHalves_44 : decode cX4_mostHalves 44 = .ok (.if_icmp .ge 45, 3) := by decide +kernel
theorem dX4_mostHalves_47 : decode cX4_mostHalves 47 = .ok (.iload_n 1, 1) := by decide +kernel
theorem dX4_mostHalves_48 : decode cX4_mostHalves 48 = .ok (.iload_n 3, 1) := by decide +kernel
theorem dX4_mostHalves_49 : decode cX4_mostHalves 49 = .ok (.iload 4, 2) := by decide +kernel
theorem dX4_mostHalves_51 : decode cX4_mostHalves 51 = .ok (.invokestatic 56, 3) := by decide +kernel
theorem dX4_mostHalves_54 : decode cX4_mostHalves 54 = .ok (.ifCond .eq 29, 3) := by decide +kernel
theorem dX4_mostHalves_57 : decode cX4_mostHalves 57 = .ok (.iload_n 1, 1) := by decide +kernel
theorem dX4_mostHalves_58 : decode cX4_mostHalves 58 = .ok (.iload_n 3, 1) := by decide +kernel
theorem dX4_mostHalves_59 : decode cX4_mostHalves 59 = .ok (.iload 5, 2) := by decide +kernel
theorem dX4_mostHalves_61 : decode cX4_mostHalves 61 = .ok (.invokestatic 56, 3) := by decide +kernel
theorem dX4_mostHalves_64 : decode cX4_mostHalves 64 = .ok (.ifCond .eq 19, 3) := by decide +kernel
theorem dX4_mostHalves_67 : decode cX4_mostHalves 67 = .ok (.iload_n 2, 1) := by decide +kernel
theorem dX4_mostHalves_68 : decode cX4_mostHalves 68 = .ok (.aload_n 0, 1) := by decide +kernel
theorem dX4_mostHalves_69 : decode cX4_mostHalves 69 = .ok (.iload 4, 2) := by decide +kernel
theorem dX4_mostHalves_71 : decode cX4_mostHalves 71 = .ok (.iload_n 3, 1) := by decide +kernel
theorem dX4_mostHalves_72 : decode cX4_mostHalves 72 = .ok (.iload 5, 2) := by decide +kernel
theorem dX4_mostHalves_74 : decode cX4_mostHalves 74 = .ok (.invokevirtual 60, 3) := by decide +kernel
theorem dX4_mostHalves_77 : decode cX4_mostHalves 77 = .ok (.iconst 2, 1) := by decide +kernel
theorem dX4_mostHalves_78 : decode cX4_mostHalves 78 = .ok (.idiv, 1) := by decide +kernel
theorem dX4_mostHalves_79 : decode cX4_mostHalves 79 = .ok (.invokestatic 64, 3) := by decide +kernel
theorem dX4_mostHalves_82 : decode cX4_mostHalves 82 = .ok (.istore_n 2, 1) := by decide +kernel
theorem dX4_mostHalves_83 : decode cX4_mostHalves 83 = .ok (.iinc 5 1, 3) := by decide +kernel
theorem dX4_mostHalves_86 : decode cX4_mostHalves 86 = .ok (.goto (-51), 3) := by decide +kernel
theorem dX4_mostHalves_89 : decode cX4_mostHalves 89 = .ok (.iinc 4 1, 3) := by decide +kernel
theorem dX4_mostHalves_92 : decode cX4_mostHalves 92 = .ok (.goto (-73), 3) := by decide +kernel
theorem dX4_mostHalves_95 : decode cX4_mostHalves 95 = .ok (.iinc 3 1, 3) := by decide +kernel
theorem dX4_mostHalves_98 : decode cX4_mostHalves 98 = .ok (.goto (-93), 3) := by decide +kernel
theorem dX4_mostHalves_101 : decode cX4_mostHalves 101 = .ok (.iload_n 2, 1) := by decide +kernel
theorem dX4_mostHalves_102 : decode cX4_mostHalves 102 = .ok (.ireturn, 1) := by decide +kernel
theorem dX4_spareWay_0 : decode cX4_spareWay 0 = .ok (.aload_n 0, 1) := by decide +kernel
theorem dX4_spareWay_1 : decode cX4_spareWay 1 = .ok (.getfield 12, 3) := by decide +kernel
theorem dX4_spareWay_4 : decode cX4_spareWay 4 = .ok (.iload_n 1, 1) := by decide +kernel
theorem dX4_spareWay_5 : decode cX4_spareWay 5 = .ok (.iload_n 2, 1) := by decide +kernel
theorem dX4_spareWay_6 : decode cX4_spareWay 6 = .ok (.invokevirtual 70, 3) := by decide +kernel
theorem dX4_spareWay_9 : decode cX4_spareWay 9 = .ok (.aload_n 0, 1) := by decide +kernel
theorem dX4_spareWay_10 : decode cX4_spareWay 10 = .ok (.getfield 12, 3) := by decide +kernel
theorem dX4_spareWay_13 : decode cX4_spareWay 13 = .ok (.iload_n 2, 1) := by decide +kernel
theorem dX4_spareWay_14 : decode cX4_spareWay 14 = .ok (.iload_n 3, 1) := by decide +kernel
theorem dX4_spareWay_15 : decode cX4_spareWay 15 = .ok (.invokevirtual 70, 3) := by decide +kernel
theorem dX4_spareWay_18 : decode cX4_spareWay 18 = .ok (.iadd, 1) := by decide +kernel
theorem dX4_spareWay_19 : decode cX4_spareWay 19 = .ok (.aload_n 0, 1) := by decide +kernel
theorem dX4_spareWay_20 : decode cX4_spareWay 20 = .ok (.getfield 12, 3) := by decide +kernel
theorem dX4_spareWay_23 : decode cX4_spareWay 23 = .ok (.iload_n 1, 1) := by decide +kernel
theorem dX4_spareWay_24 : decode cX4_spareWay 24 = .ok (.iload_n 3, 1) := by decide +kernel
theorem dX4_spareWay_25 : decode cX4_spareWay 25 = .ok (.invokevirtual 70, 3) := by decide +kernel
theorem dX4_spareWay_28 : decode cX4_spareWay 28 = .ok (.isub, 1) := by decide +kernel
theorem dX4_spareWay_29 : decode cX4_spareWay 29 = .ok (.ireturn, 1) := by decide +kernel
theorem dX5_init_0 : decode cX5_init 0 = .ok (.aload_n 0, 1) := by decide +kernel
theorem dX5_init_1 : decode cX5_init 1 = .ok (.invokespecial 3, 3) := by decide +kernel
theorem dX5_init_4 : decode cX5_init 4 = .ok (.aload_n 0, 1) := by decide +kernel
theorem dX5_init_5 : decode cX5_init 5 = .ok (.bipush 10, 2) := by decide +kernel
theorem dX5_init_7 : decode cX5_init 7 = .ok (.newarray .int, 2) := by decide +kernel
theorem dX5_init_9 : decode cX5_init 9 = .ok (.putfield 9, 3) := by decide +kernel
theorem dX5_init_12 : decode cX5_init 12 = .ok (.return_, 1) := by decide +kernel
theorem dX5_hasLength_0 : decode cX5_hasLength 0 = .ok (.iload_n 0, 1) := by decide +kernel
theorem dX5_hasLength_1 : decode cX5_hasLength 1 = .ok (.iconst 1, 1) := by decide +kernel
theorem dX5_hasLength_2 : decode cX5_hasLength 2 = .ok (.if_icmp .lt 13, 3) := by decide +kernel
theorem dX5_hasLength_5 : decode cX5_hasLength 5 = .ok (.iload_n 0, 1) := by decide +kernel
theorem dX5_hasLength_6 : decode cX5_hasLength 6 = .ok (.bipush 10, 2) := by decide +kernel
theorem dX5_hasLength_8 : decode cX5_hasLength 8 = .ok (.if_icmp .gt 7, 3) := by decide +kernel
theorem dX5_hasLength_11 : decode cX5_hasLength 11 = .ok (.iconst 1, 1) := by decide +kernel
theorem dX5_hasLength_12 : decode cX5_hasLength 12 = .ok (.goto 4, 3) := by decide +kernel
theorem dX5_hasLength_15 : decode cX5_hasLength 15 = .ok (.iconst 0, 1) := by decide +kernel
theorem dX5_hasLength_16 : decode cX5_hasLength 16 = .ok (.ireturn, 1) := by decide +kernel
theorem dX5_size_0 : decode cX5_size 0 = .ok (.iconst 0, 1) := by decide +kernel
theorem dX5_size_1 : decode cX5_size 1 = .ok (.istore_n 3, 1) := by decide +kernel
theorem dX5_size_2 : decode cX5_size 2 = .ok (.iconst 0, 1) := by decide +kernel
theorem dX5_size_3 : decode cX5_size 3 = .ok (.istore 4, 2) := by decide +kernel
theorem dX5_size_5 : decode cX5_size 5 = .ok (.iload 4, 2) := by decide +kernel
theorem dX5_size_7 : decode cX5_size 7 = .ok (.iload_n 1, 1) := by decide +kernel
theorem dX5_size_8 : decode cX5_size 8 = .ok (.if_icmp .ge 39, 3) := by decide +kernel
theorem dX5_size_11 : decode cX5_size 11 = .ok (.iload_n 3, 1) := by decide +kernel
theorem dX5_size_12 : decode cX5_size 12 = .ok (.iload_n 2, 1) := by decide +kernel
theorem dX5_size_13 : decode cX5_size 13 = .ok (.iload 4, 2) := by decide +kernel
theorem dX5_size_15 : decode cX5_size 15 = .ok (.invokestatic 15, 3) := by decide +kernel
theorem dX5_size_18 : decode cX5_size 18 = .ok (.ifCond .eq 14, 3) := by decide +kernel
theorem dX5_size_21 : decode cX5_size 21 = .ok (.aload_n 0, 1) := by decide +kernel
theorem dX5_size_22 : decode cX5_size 22 = .ok (.getfield 9, 3) := by decide +kernel
theorem dX5_size_25 : decode cX5_size 25 = .ok (.iload 4, 2) := by decide +kernel
theorem dX5_size_27 : decode cX5_size 27 = .ok (.iaload, 1) := by decide +kernel
theorem dX5_size_28 : decode cX5_size 28 = .ok (.ineg, 1) := by decide +kernel
theorem dX5_size_29 : decode cX5_size 29 = .ok (.goto 10, 3) := by decide +kernel
theorem dX5_size_32 : decode cX5_size 32 = .ok (.aload_n 0, 1) := by decide +kernel
theorem dX5_size_33 : decode cX5_size 33 = .ok (.getfield 9, 3) := by decide +kernel
theorem dX5_size_36 : decode cX5_size 36 = .ok (.iload 4, 2) := by decide +kernel
theorem dX5_size_38 : decode cX5_size 38 = .ok (.iaload, 1) := by decide +kernel
theorem dX5_size_39 : decode cX5_size 39 = .ok (.iadd, 1) := by decide +kernel
theorem dX5_size_40 : decode cX5_size 40 = .ok (.istore_n 3, 1) := by decide +kernel
theorem dX5_size_41 : decode cX5_size 41 = .ok (.iinc 4 1, 3) := by decide +kernel
theorem dX5_size_44 : decode cX5_size 44 = .ok (.goto (-39), 3) := by decide +kernel
theorem dX5_size_47 : decode cX5_size 47 = .ok (.iload_n 3, 1) := by decide +kernel
theorem dX5_size_48 : decode cX5_size 48 = .ok (.invokestatic 19, 3) := by decide +kernel
theorem dX5_size_51 : decode cX5_size 51 = .ok (.ireturn, 1) := by decide +kernel
theorem dX5_rowsWithin_0 : decode cX5_rowsWithin 0 = .ok (.iconst 0, 1) := by decide +kernel
theorem dX5_rowsWithin_1 : decode cX5_rowsWithin 1 = .ok (.istore_n 3, 1) := by decide +kernel
theorem dX5_rowsWithin_2 : decode cX5_rowsWithin 2 = .ok (.iconst 0, 1) := by decide +kernel
theorem dX5_rowsWithin_3 : decode cX5_rowsWithin 3 = .ok (.istore 4, 2) := by decide +kernel
theorem dX5_rowsWithin_5 : decode cX5_rowsWithin 5 = .ok (.iload 4, 2) := by decide +kernel
theorem dX5_rowsWithin_7 : decode cX5_rowsWithin 7 = .ok (.iconst 1, 1) := by decide +kernel
theorem dX5_rowsWithin_8 : decode cX5_rowsWithin 8 = .ok (.iload_n 1, 1) := by decide +kernel
theorem dX5_rowsWithin_9 : decode cX5_rowsWithin 9 = .ok (.ishl, 1) := by decide +kernel
theorem dX5_rowsWithin_10 : decode cX5_rowsWithin 10 = .ok (.if_icmp .ge 23, 3) := by decide +kernel
theorem dX5_rowsWithin_13 : decode cX5_rowsWithin 13 = .ok (.aload_n 0, 1) := by decide +kernel
theorem dX5_rowsWithin_14 : decode cX5_rowsWithin 14 = .ok (.iload_n 1, 1) := by decide +kernel
theorem dX5_rowsWithin_15 : decode cX5_rowsWithin 15 = .ok (.iload 4, 2) := by decide +kernel
theorem dX5_rowsWithin_17 : decode cX5_rowsWithin 17 = .ok (.invokevirtual 25, 3) := by decide +kernel
theorem dX5_rowsWithin_20 : decode cX5_rowsWithin 20 = .ok (.iload_n 2, 1) := by decide +kernel
theorem dX5_rowsWithin_21 : decode cX5_rowsWithin 21 = .ok (.if_icmp .gt 6, 3) := by decide +kernel
theorem dX5_rowsWithin_24 : decode cX5_rowsWithin 24 = .ok (.iinc 3 1, 3) := by decide +kernel
theorem dX5_rowsWithin_27 : decode cX5_rowsWithin 27 = .ok (.iinc 4 1, 3) := by decide +kernel
theorem dX5_rowsWithin_30 : decode cX5_rowsWithin 30 = .ok (.goto (-25), 3) := by decide +kernel
theorem dX5_rowsWithin_33 : decode cX5_rowsWithin 33 = .ok (.iload_n 3, 1) := by decide +kernel
theorem dX5_rowsWithin_34 : decode cX5_rowsWithin 34 = .ok (.ireturn, 1) := by decide +kernel
theorem dX5_smallestRow_0 : decode cX5_smallestRow 0 = .ok (.iconst 0, 1) := by decide +kernel
theorem dX5_smallestRow_1 : decode cX5_smallestRow 1 = .ok (.istore_n 2, 1) := by decide +kernel
theorem dX5_smallestRow_2 : decode cX5_smallestRow 2 = .ok (.aload_n 0, 1) := by decide +kernel
theorem dX5_smallestRow_3 : decode cX5_smallestRow 3 = .ok (.iload_n 1, 1) := by decide +kernel
theorem dX5_smallestRow_4 : decode cX5_smallestRow 4 = .ok (.iload_n 2, 1) := by decide +kernel
theorem dX5_smallestRow_5 : decode cX5_smallestRow 5 = .ok (.invokevirtual 25, 3) := by decide +kernel
theorem dX5_smallestRow_8 : decode cX5_smallestRow 8 = .ok (.istore_n 3, 1) := by decide +kernel
theorem dX5_smallestRow_9 : decode cX5_smallestRow 9 = .ok (.iconst 1, 1) := by decide +kernel
theorem dX5_smallestRow_10 : decode cX5_smallestRow 10 = .ok (.istore 4, 2) := by decide +kernel
theorem dX5_smallestRow_12 : decode cX5_smallestRow 12 = .ok (.iload 4, 2) := by decide +kernel
theorem dX5_smallestRow_14 : decode cX5_smallestRow 14 = .ok (.iconst 1, 1) := by decide +kernel
theorem dX5_smallestRow_15 : decode cX5_smallestRow 15 = .ok (.iload_n 1, 1) := by decide +kernel
theorem dX5_smallestRow_16 : decode cX5_smallestRow 16 = .ok (.ishl, 1) := by decide +kernel
theorem dX5_smallestRow_17 : decode cX5_smallestRow 17 = .ok (.if_icmp .ge 30, 3) := by decide +kernel
theorem dX5_smallestRow_20 : decode cX5_smallestRow 20 = .ok (.aload_n 0, 1) := by decide +kernel
theorem dX5_smallestRow_21 : decode cX5_smallestRow 21 = .ok (.iload_n 1, 1) := by decide +kernel
theorem dX5_smallestRow_22 : decode cX5_smallestRow 22 = .ok (.iload 4, 2) := by decide +kernel
theorem dX5_smallestRow_24 : decode cX5_smallestRow 24 = .ok (.invokevirtual 25, 3) := by decide +kernel
theorem dX5_smallestRow_27 : decode cX5_smallestRow 27 = .ok (.istore 5, 2) := by decide +kernel
theorem dX5_smallestRow_29 : decode cX5_smallestRow 29 = .ok (.iload 5, 2) := by decide +kernel
theorem dX5_smallestRow_31 : decode cX5_smallestRow 31 = .ok (.iload_n 3, 1) := by decide +kernel
theorem dX5_smallestRow_32 : decode cX5_smallestRow 32 = .ok (.if_icmp .ge 9, 3) := by decide +kernel
theorem dX5_smallestRow_35 : decode cX5_smallestRow 35 = .ok (.iload 4, 2) := by decide +kernel
theorem dX5_smallestRow_37 : decode cX5_smallestRow 37 = .ok (.istore_n 2, 1) := by decide +kernel
theorem dX5_smallestRow_38 : decode cX5_smallestRow 38 = .ok (.iload 5, 2) := by decide +kernel
theorem dX5_smallestRow_40 : decode cX5_smallestRow 40 = .ok (.istore_n 3, 1) := by decide +kernel
theorem dX5_smallestRow_41 : decode cX5_smallestRow 41 = .ok (.iinc 4 1, 3) := by decide +kernel
theorem dX5_smallestRow_44 : decode cX5_smallestRow 44 = .ok (.goto (-32), 3) := by decide +kernel
theorem dX5_smallestRow_47 : decode cX5_smallestRow 47 = .ok (.iload_n 2, 1) := by decide +kernel
theorem dX5_smallestRow_48 : decode cX5_smallestRow 48 = .ok (.ireturn, 1) := by decide +kernel
theorem dX6_init_0 : decode cX6_init 0 = .ok (.aload_n 0, 1) := by decide +kernel
theorem dX6_init_1 : decode cX6_init 1 = .ok (.invokespecial 3, 3) := by decide +kernel
theorem dX6_init_4 : decode cX6_init 4 = .ok (.aload_n 0, 1) := by decide +kernel
theorem dX6_init_5 : decode cX6_init 5 = .ok (.bipush 36, 2) := by decide +kernel
theorem dX6_init_7 : decode cX6_init 7 = .ok (.newarray .int, 2) := by decide +kernel
theorem dX6_init_9 : decode cX6_init 9 = .ok (.putfield 9, 3) := by decide +kernel
theorem dX6_init_12 : decode cX6_init 12 = .ok (.aload_n 0, 1) := by decide +kernel
theorem dX6_init_13 : decode cX6_init 13 = .ok (.iconst 2, 1) := by decide +kernel
theorem dX6_init_14 : decode cX6_init 14 = .ok (.invokevirtual 15, 3) := by decide +kernel
theorem dX6_init_17 : decode cX6_init 17 = .ok (.return_, 1) := by decide +kernel
theorem dX6_reset_0 : decode cX6_reset 0 = .ok (.aload_n 0, 1) := by decide +kernel
theorem dX6_reset_1 : decode cX6_reset 1 = .ok (.iload_n 1, 1) := by decide +kernel
theorem dX6_reset_2 : decode cX6_reset 2 = .ok (.putfield 19, 3) := by decide +kernel
theorem dX6_reset_5 : decode cX6_reset 5 = .ok (.iconst 0, 1) := by decide +kernel
theorem dX6_reset_6 : decode cX6_reset 6 = .ok (.istore_n 2, 1) := by decide +kernel
theorem dX6_reset_7 : decode cX6_reset 7 = .ok (.iload_n 2, 1) := by decide +kernel
theorem dX6_reset_8 : decode cX6_reset 8 = .ok (.iload_n 1, 1) := by decide +kernel
theorem dX6_reset_9 : decode cX6_reset 9 = .ok (.if_icmp .ge 43, 3) := by decide +kernel
theorem dX6_reset_12 : decode cX6_reset 12 = .ok (.iconst 0, 1) := by decide +kernel
theorem dX6_reset_13 : decode cX6_reset 13 = .ok (.istore_n 3, 1) := by decide +kernel
theorem dX6_reset_14 : decode cX6_reset 14 = .ok (.iload_n 3, 1) := by decide +kernel
theorem dX6_reset_15 : decode cX6_reset 15 = .ok (.iload_n 1, 1) := by decide +kernel
theorem dX6_reset_16 : decode cX6_reset 16 = .ok (.if_icmp .ge 30, 3) := by decide +kernel
theorem dX6_reset_19 : decode cX6_reset 19 = .ok (.aload_n 0, 1) := by decide +kernel
theorem dX6_reset_20 : decode cX6_reset 20 = .ok (.getfield 9, 3) := by decide +kernel
theorem dX6_reset_23 : decode cX6_reset 23 = .ok (.iload_n 2, 1) := by decide +kernel
theorem dX6_reset_24 : decode cX6_reset 24 = .ok (.bipush 6, 2) := by decide +kernel
theorem dX6_reset_26 : decode cX6_reset 26 = .ok (.imul, 1) := by decide +kernel
theorem dX6_reset_27 : decode cX6_reset 27 = .ok (.iload_n 3, 1) := by decide +kernel
theorem dX6_reset_28 : decode cX6_reset 28 = .ok (.iadd, 1) := by decide +kernel
theorem dX6_reset_29 : decode cX6_reset 29 = .ok (.iload_n 2, 1) := by decide +kernel
theorem dX6_reset_30 : decode cX6_reset 30 = .ok (.iload_n 3, 1) := by decide +kernel
theorem dX6_reset_31 : decode cX6_reset 31 = .ok (.if_icmp .ne 7, 3) := by decide +kernel
theorem dX6_reset_34 : decode cX6_reset 34 = .ok (.iconst 0, 1) := by decide +kernel
theorem dX6_reset_35 : decode cX6_reset 35 = .ok (.goto 4, 3) := by decide +kernel
theorem dX6_reset_38 : decode cX6_reset 38 = .ok (.iconst 1, 1) := by decide +kernel
theorem dX6_reset_39 : decode cX6_reset 39 = .ok (.iastore, 1) := by decide +kernel
theorem dX6_reset_40 : decode cX6_reset 40 = .ok (.iinc 3 1, 3) := by decide +kernel
theorem dX6_reset_43 : decode cX6_reset 43 = .ok (.goto (-29), 3) := by decide +kernel
theorem dX6_reset_46 : decode cX6_reset 46 = .ok (.iinc 2 1, 3) := by decide +kernel
theorem dX6_reset_49 : decode cX6_reset 49 = .ok (.goto (-42), 3) := by decide +kernel
theorem dX6_reset_52 : decode cX6_reset 52 = .ok (.return_, 1) := by decide +kernel
theorem dX6_copyDoubled_0 : decode cX6_copyDoubled 0 = .ok (.aload_n 0, 1) := by decide +kernel
theorem dX6_copyDoubled_1 : decode cX6_copyDoubled 1 = .ok (.aload_n 1, 1) := by decide +kernel
theorem dX6_copyDoubled_2 : decode cX6_copyDoubled 2 = .ok (.getfield 19, 3) := by decide +kernel
theorem dX6_copyDoubled_5 : decode cX6_copyDoubled 5 = .ok (.putfield 19, 3) := by decide +kernel
theorem dX6_copyDoubled_8 : decode cX6_copyDoubled 8 = .ok (.iconst 0, 1) := by decide +kernel
theorem dX6_copyDoubled_9 : decode cX6_copyDoubled 9 = .ok (.istore_n 2, 1) := by decide +kernel
theorem dX6_copyDoubled_10 : decode cX6_copyDoubled 10 = .ok (.iload_n 2, 1) := by decide +kernel
theorem dX6_copyDoubled_11 : decode cX6_copyDoubled 11 = .ok (.aload_n 0, 1) := by decide +kernel
theorem dX6_copyDoubled_12 : decode cX6_copyDoubled 12 = .ok (.getfield 9, 3) := by decide +kernel
theorem dX6_copyDoubled_15 : decode cX6_copyDoubled 15 = .ok (.arraylength, 1) := by decide +kernel
theorem dX6_copyDoubled_16 : decode cX6_copyDoubled 16 = .ok (.if_icmp .ge 23, 3) := by decide +kernel
theorem dX6_copyDoubled_19 : decode cX6_copyDoubled 19 = .ok (.aload_n 0, 1) := by decide +kernel
theorem dX6_copyDoubled_20 : decode cX6_copyDoubled 20 = .ok (.getfield 9, 3) := by decide +kernel
theorem dX6_copyDoubled_23 : decode cX6_copyDoubled 23 = .ok (.iload_n 2, 1) := by decide +kernel
theorem dX6_copyDoubled_24 : decode cX6_copyDoubled 24 = .ok (.iconst 2, 1) := by decide +kernel
theorem dX6_copyDoubled_25 : decode cX6_copyDoubled 25 = .ok (.aload_n 1, 1) := by decide +kernel
theorem dX6_copyDoubled_26 : decode cX6_copyDoubled 26 = .ok (.getfield 9, 3) := by decide +kernel
theorem dX6_copyDoubled_29 : decode cX6_copyDoubled 29 = .ok (.iload_n 2, 1) := by decide +kernel
theorem dX6_copyDoubled_30 : decode cX6_copyDoubled 30 = .ok (.iaload, 1) := by decide +kernel
theorem dX6_copyDoubled_31 : decode cX6_copyDoubled 31 = .ok (.imul, 1) := by decide +kernel
theorem dX6_copyDoubled_32 : decode cX6_copyDoubled 32 = .ok (.iastore, 1) := by decide +kernel
theorem dX6_copyDoubled_33 : decode cX6_copyDoubled 33 = .ok (.iinc 2 1, 3) := by decide +kernel
theorem dX6_copyDoubled_36 : decode cX6_copyDoubled 36 = .ok (.goto (-26), 3) := by decide +kernel
theorem dX6_copyDoubled_39 : decode cX6_copyDoubled 39 = .ok (.return_, 1) := by decide +kernel
theorem dX6_hasPoint_0 : decode cX6_hasPoint 0 = .ok (.iload_n 1, 1) := by decide +kernel
theorem dX6_hasPoint_1 : decode cX6_hasPoint 1 = .ok (.ifCond .lt 15, 3) := by decide +kernel
theorem dX6_hasPoint_4 : decode cX6_hasPoint 4 = .ok (.iload_n 1, 1) := by decide +kernel
theorem dX6_hasPoint_5 : decode cX6_hasPoint 5 = .ok (.aload_n 0, 1) := by decide +kernel
theorem dX6_hasPoint_6 : decode cX6_hasPoint 6 = .ok (.getfield 19, 3) := by decide +kernel
theorem dX6_hasPoint_9 : decode cX6_hasPoint 9 = .ok (.if_icmp .ge 7, 3) := by decide +kernel
theorem dX6_hasPoint_12 : decode cX6_hasPoint 12 = .ok (.iconst 1, 1) := by decide +kernel
theorem dX6_hasPoint_13 : decode cX6_hasPoint 13 = .ok (.goto 4, 3) := by decide +kernel
theorem dX6_hasPoint_16 : decode cX6_hasPoint 16 = .ok (.iconst 0, 1) := by decide +kernel
theorem dX6_hasPoint_17 : decode cX6_hasPoint 17 = .ok (.ireturn, 1) := by decide +kernel
theorem dX6_hasPair_0 : decode cX6_hasPair 0 = .ok (.aload_n 0, 1) := by decide +kernel
theorem dX6_hasPair_1 : decode cX6_hasPair 1 = .ok (.iload_n 1, 1) := by decide +kernel
theorem dX6_hasPair_2 : decode cX6_hasPair 2 = .ok (.invokevirtual 23, 3) := by decide +kernel
theorem dX6_hasPair_5 : decode cX6_hasPair 5 = .ok (.ifCond .eq 15, 3) := by decide +kernel
theorem dX6_hasPair_8 : decode cX6_hasPair 8 = .ok (.aload_n 0, 1) := by decide +kernel
theorem dX6_hasPair_9 : decode cX6_hasPair 9 = .ok (.iload_n 2, 1) := by decide +kernel
theorem dX6_hasPair_10 : decode cX6_hasPair 10 = .ok (.invokevirtual 23, 3) := by decide +kernel
theorem dX6_hasPair_13 : decode cX6_hasPair 13 = .ok (.ifCond .eq 7, 3) := by decide +kernel
theorem dX6_hasPair_16 : decode cX6_hasPair 16 = .ok (.iconst 1, 1) := by decide +kernel
theorem dX6_hasPair_17 : decode cX6_hasPair 17 = .ok (.goto 4, 3) := by decide +kernel
theorem dX6_hasPair_20 : decode cX6_hasPair 20 = .ok (.iconst 0, 1) := by decide +kernel
theorem dX6_hasPair_21 : decode cX6_hasPair 21 = .ok (.ireturn, 1) := by decide +kernel
theorem dX6_hasCut_0 : decode cX6_hasCut 0 = .ok (.iload_n 1, 1) := by decide +kernel
theorem dX6_hasCut_1 : decode cX6_hasCut 1 = .ok (.ifCond .le 25, 3) := by decide +kernel
theorem dX6_hasCut_4 : decode cX6_hasCut 4 = .ok (.iload_n 1, 1) := by decide +kernel
theorem dX6_hasCut_5 : decode cX6_hasCut 5 = .ok (.iconst 1, 1) := by decide +kernel
theorem dX6_hasCut_6 : decode cX6_hasCut 6 = .ok (.aload_n 0, 1) := by decide +kernel
theorem dX6_hasCut_7 : decode cX6_hasCut 7 = .ok (.getfield 19, 3) := by decide +kernel
theorem dX6_hasCut_10 : decode cX6_hasCut 10 = .ok (.ishl, 1) := by decide +kernel
theorem dX6_hasCut_11 : decode cX6_hasCut 11 = .ok (.if_icmp .ge 15, 3) := by decide +kernel
theorem dX6_hasCut_14 : decode cX6_hasCut 14 = .ok (.iload_n 1, 1) := by decide +kernel
theorem dX6_hasCut_15 : decode cX6_hasCut 15 = .ok (.iconst 0, 1) := by decide +kernel
theorem dX6_hasCut_16 : decode cX6_hasCut 16 = .ok (.invokestatic 27, 3) := by decide +kernel
theorem dX6_hasCut_19 : decode cX6_hasCut 19 = .ok (.ifCond .ne 7, 3) := by decide +kernel
theorem dX6_hasCut_22 : decode cX6_hasCut 22 = .ok (.iconst 1, 1) := by decide +kernel
theorem dX6_hasCut_23 : decode cX6_hasCut 23 = .ok (.goto 4, 3) := by decide +kernel
theorem dX6_hasCut_26 : decode cX6_hasCut 26 = .ok (.iconst 0, 1) := by decide +kernel
theorem dX6_hasCut_27 : decode cX6_hasCut 27 = .ok (.ireturn, 1) := by decide +kernel
theorem dX6_between_0 : decode cX6_between 0 = .ok (.aload_n 0, 1) := by decide +kernel
theorem dX6_between_1 : decode cX6_between 1 = .ok (.getfield 9, 3) := by decide +kernel
theorem dX6_between_4 : decode cX6_between 4 = .ok (.iload_n 1, 1) := by decide +kernel
theorem dX6_between_5 : decode cX6_between 5 = .ok (.bipush 6, 2) := by decide +kernel
theorem dX6_between_7 : decode cX6_between 7 = .ok (.imul, 1) := by decide +kernel
theorem dX6_between_8 : decode cX6_between 8 = .ok (.iload_n 2, 1) := by decide +kernel
theorem dX6_between_9 : decode cX6_between 9 = .ok (.iadd, 1) := by decide +kernel
theorem dX6_between_10 : decode cX6_between 10 = .ok (.iaload, 1) := by decide +kernel
theorem dX6_between_11 : decode cX6_between 11 = .ok (.ireturn, 1) := by decide +kernel
theorem dX6_put_0 : decode cX6_put 0 = .ok (.aload_n 0, 1) := by decide +kernel
theorem dX6_put_1 : decode cX6_put 1 = .ok (.getfield 9, 3) := by decide +kernel
theorem dX6_put_4 : decode cX6_put 4 = .ok (.iload_n 1, 1) := by decide +kernel
theorem dX6_put_5 : decode cX6_put 5 = .ok (.bipush 6, 2) := by decide +kernel
theorem dX6_put_7 : decode cX6_put 7 = .ok (.imul, 1) := by decide +kernel
theorem dX6_put_8 : decode cX6_put 8 = .ok (.iload_n 2, 1) := by decide +kernel
theorem dX6_put_9 : decode cX6_put 9 = .ok (.iadd, 1) := by decide +kernel
theorem dX6_put_10 : decode cX6_put 10 = .ok (.iload_n 3, 1) := by decide +kernel
theorem dX6_put_11 : decode cX6_put 11 = .ok (.iastore, 1) := by decide +kernel
theorem dX6_put_12 : decode cX6_put 12 = .ok (.aload_n 0, 1) := by decide +kernel
theorem dX6_put_13 : decode cX6_put 13 = .ok (.getfield 9, 3) := by decide +kernel
theorem dX6_put_16 : decode cX6_put 16 = .ok (.iload_n 2, 1) := by decide +kernel
theorem dX6_put_17 : decode cX6_put 17 = .ok (.bipush 6, 2) := by decide +kernel
theorem dX6_put_19 : decode cX6_put 19 = .ok (.imul, 1) := by decide +kernel
theorem dX6_put_20 : decode cX6_put 20 = .ok (.iload_n 1, 1) := by decide +kernel
theorem dX6_put_21 : decode cX6_put 21 = .ok (.iadd, 1) := by decide +kernel
theorem dX6_put_22 : decode cX6_put 22 = .ok (.iload_n 3, 1) := by decide +kernel
theorem dX6_put_23 : decode cX6_put 23 = .ok (.iastore, 1) := by decide +kernel
theorem dX6_put_24 : decode cX6_put 24 = .ok (.return_, 1) := by decide +kernel
theorem dX6_bearsCut_0 : decode cX6_bearsCut 0 = .ok (.iconst 0, 1) := by decide +kernel
theorem dX6_bearsCut_1 : decode cX6_bearsCut 1 = .ok (.istore_n 3, 1) := by decide +kernel
theorem dX6_bearsCut_2 : decode cX6_bearsCut 2 = .ok (.iload_n 3, 1) := by decide +kernel
theorem dX6_bearsCut_3 : decode cX6_bearsCut 3 = .ok (.aload_n 0, 1) := by decide +kernel
theorem dX6_bearsCut_4 : decode cX6_bearsCut 4 = .ok (.getfield 19, 3) := by decide +kernel
theorem dX6_bearsCut_7 : decode cX6_bearsCut 7 = .ok (.if_icmp .ge 64, 3) := by decide +kernel
theorem dX6_bearsCut_10 : decode cX6_bearsCut 10 = .ok (.iload_n 3, 1) := by decide +kernel
theorem dX6_bearsCut_11 : decode cX6_bearsCut 11 = .ok (.iconst 1, 1) := by decide +kernel
theorem dX6_bearsCut_12 : decode cX6_bearsCut 12 = .ok (.iadd, 1) := by decide +kernel
theorem dX6_bearsCut_13 : decode cX6_bearsCut 13 = .ok (.istore 4, 2) := by decide +kernel
theorem dX6_bearsCut_15 : decode cX6_bearsCut 15 = .ok (.iload 4, 2) := by decide +kernel
theorem dX6_bearsCut_17 : decode cX6_bearsCut 17 = .ok (.aload_n 0, 1) := by decide +kernel
theorem dX6_bearsCut_18 : decode cX6_bearsCut 18 = .ok (.getfield 19, 3) := by decide +kernel
theorem dX6_bearsCut_21 : decode cX6_bearsCut 21 = .ok (.if_icmp .ge 44, 3) := by decide +kernel
theorem dX6_bearsCut_24 : decode cX6_bearsCut 24 = .ok (.aload_n 0, 1) := by decide +kernel
theorem dX6_bearsCut_25 : decode cX6_bearsCut 25 = .ok (.iload_n 3, 1) := by decide +kernel
theorem dX6_bearsCut_26 : decode cX6_bearsCut 26 = .ok (.iload 4, 2) := by decide +kernel
theorem dX6_bearsCut_28 : decode cX6_bearsCut 28 = .ok (.invokevirtual 31, 3) := by decide +kernel
theorem dX6_bearsCut_31 : decode cX6_bearsCut 31 = .ok (.iload_n 2, 1) := by decide +kernel
theorem dX6_bearsCut_32 : decode cX6_bearsCut 32 = .ok (.iadd, 1) := by decide +kernel
theorem dX6_bearsCut_33 : decode cX6_bearsCut 33 = .ok (.istore 5, 2) := by decide +kernel
theorem dX6_bearsCut_35 : decode cX6_bearsCut 35 = .ok (.iload_n 1, 1) := by decide +kernel
theorem dX6_bearsCut_36 : decode cX6_bearsCut 36 = .ok (.iload_n 3, 1) := by decide +kernel
theorem dX6_bearsCut_37 : decode cX6_bearsCut 37 = .ok (.iload 4, 2) := by decide +kernel
theorem dX6_bearsCut_39 : decode cX6_bearsCut 39 = .ok (.invokestatic 35, 3) := by decide +kernel
theorem dX6_bearsCut_42 : decode cX6_bearsCut 42 = .ok (.ifCond .eq 17, 3) := by decide +kernel
theorem dX6_bearsCut_45 : decode cX6_bearsCut 45 = .ok (.iload 5, 2) := by decide +kernel
theorem dX6_bearsCut_47 : decode cX6_bearsCut 47 = .ok (.ifCond .lt 10, 3) := by decide +kernel
theorem dX6_bearsCut_50 : decode cX6_bearsCut 50 = .ok (.iload 5, 2) := by decide +kernel
theorem dX6_bearsCut_52 : decode cX6_bearsCut 52 = .ok (.bipush 30, 2) := by decide +kernel
theorem dX6_bearsCut_54 : decode cX6_bearsCut 54 = .ok (.if_icmp .le 5, 3) := by decide +kernel
theorem dX6_bearsCut_57 : decode cX6_bearsCut 57 = .ok (.iconst 0, 1) := by decide +kernel
theorem dX6_bearsCut_58 : decode cX6_bearsCut 58 = .ok (.ireturn, 1) := by decide +kernel
theorem dX6_bearsCut_59 : decode cX6_bearsCut 59 = .ok (.iinc 4 1, 3) := by decide +kernel
theorem dX6_bearsCut_62 : decode cX6_bearsCut 62 = .ok (.goto (-47), 3) := by decide +kernel
theorem dX6_bearsCut_65 : decode cX6_bearsCut 65 = .ok (.iinc 3 1, 3) := by decide +kernel
theorem dX6_bearsCut_68 : decode cX6_bearsCut 68 = .ok (.goto (-66), 3) := by decide +kernel
theorem dX6_bearsCut_71 : decode cX6_bearsCut 71 = .ok (.iconst 1, 1) := by decide +kernel
theorem dX6_bearsCut_72 : decode cX6_bearsCut 72 = .ok (.ireturn, 1) := by decide +kernel
theorem dX6_putCut_0 : decode cX6_putCut 0 = .ok (.iconst 0, 1) := by decide +kernel
theorem dX6_putCut_1 : decode cX6_putCut 1 = .ok (.istore_n 3, 1) := by decide +kernel
theorem dX6_putCut_2 : decode cX6_putCut 2 = .ok (.iload_n 3, 1) := by decide +kernel
theorem dX6_putCut_3 : decode cX6_putCut 3 = .ok (.aload_n 0, 1) := by decide +kernel
theorem dX6_putCut_4 : decode cX6_putCut 4 = .ok (.getfield 19, 3) := by decide +kernel
theorem dX6_putCut_7 : decode cX6_putCut 7 = .ok (.if_icmp .ge 55, 3) := by decide +kernel
theorem dX6_putCut_10 : decode cX6_putCut 10 = .ok (.iload_n 3, 1) := by decide +kernel
theorem dX6_putCut_11 : decode cX6_putCut 11 = .ok (.iconst 1, 1) := by decide +kernel
theorem dX6_putCut_12 : decode cX6_putCut 12 = .ok (.iadd, 1) := by decide +kernel
theorem dX6_putCut_13 : decode cX6_putCut 13 = .ok (.istore 4, 2) := by decide +kernel
theorem dX6_putCut_15 : decode cX6_putCut 15 = .ok (.iload 4, 2) := by decide +kernel
theorem dX6_putCut_17 : decode cX6_putCut 17 = .ok (.aload_n 0, 1) := by decide +kernel
theorem dX6_putCut_18 : decode cX6_putCut 18 = .ok (.getfield 19, 3) := by decide +kernel
theorem dX6_putCut_21 : decode cX6_putCut 21 = .ok (.if_icmp .ge 35, 3) := by decide +kernel
theorem dX6_putCut_24 : decode cX6_putCut 24 = .ok (.iload_n 1, 1) := by decide +kernel
theorem dX6_putCut_25 : decode cX6_putCut 25 = .ok (.iload_n 3, 1) := by decide +kernel
theorem dX6_putCut_26 : decode cX6_putCut 26 = .ok (.iload 4, 2) := by decide +kernel
theorem dX6_putCut_28 : decode cX6_putCut 28 = .ok (.invokestatic 35, 3) := by decide +kernel
theorem dX6_putCut_31 : decode cX6_putCut 31 = .ok (.ifCond .eq 19, 3) := by decide +kernel
theorem dX6_putCut_34 : decode cX6_putCut 34 = .ok (.aload_n 0, 1) := by decide +kernel
theorem dX6_putCut_35 : decode cX6_putCut 35 = .ok (.iload_n 3, 1) := by decide +kernel
theorem dX6_putCut_36 : decode cX6_putCut 36 = .ok (.iload 4, 2) := by decide +kernel
theorem dX6_putCut_38 : decode cX6_putCut 38 = .ok (.aload_n 0, 1) := by decide +kernel
theorem dX6_putCut_39 : decode cX6_putCut 39 = .ok (.iload_n 3, 1) := by decide +kernel
theorem dX6_putCut_40 : decode cX6_putCut 40 = .ok (.iload 4, 2) := by decide +kernel
theorem dX6_putCut_42 : decode cX6_putCut 42 = .ok (.invokevirtual 31, 3) := by decide +kernel
theorem dX6_putCut_45 : decode cX6_putCut 45 = .ok (.iload_n 2, 1) := by decide +kernel
theorem dX6_putCut_46 : decode cX6_putCut 46 = .ok (.iadd, 1) := by decide +kernel
theorem dX6_putCut_47 : decode cX6_putCut 47 = .ok (.invokevirtual 39, 3) := by decide +kernel
theorem dX6_putCut_50 : decode cX6_putCut 50 = .ok (.iinc 4 1, 3) := by decide +kernel
theorem dX6_putCut_53 : decode cX6_putCut 53 = .ok (.goto (-38), 3) := by decide +kernel
theorem dX6_putCut_56 : decode cX6_putCut 56 = .ok (.iinc 3 1, 3) := by decide +kernel
theorem dX6_putCut_59 : decode cX6_putCut 59 = .ok (.goto (-57), 3) := by decide +kernel
theorem dX6_putCut_62 : decode cX6_putCut 62 = .ok (.return_, 1) := by decide +kernel
theorem dX7_init_0 : decode cX7_init 0 = .ok (.aload_n 0, 1) := by decide +kernel
theorem dX7_init_1 : decode cX7_init 1 = .ok (.invokespecial 3, 3) := by decide +kernel
theorem dX7_init_4 : decode cX7_init 4 = .ok (.aload_n 0, 1) := by decide +kernel
theorem dX7_init_5 : decode cX7_init 5 = .ok (.new 9, 3) := by decide +kernel
theorem dX7_init_8 : decode cX7_init 8 = .ok (.dup, 1) := by decide +kernel
theorem dX7_init_9 : decode cX7_init 9 = .ok (.invokespecial 11, 3) := by decide +kernel
theorem dX7_init_12 : decode cX7_init 12 = .ok (.putfield 12, 3) := by decide +kernel
theorem dX7_init_15 : decode cX7_init 15 = .ok (.aload_n 0, 1) := by decide +kernel
theorem dX7_init_16 : decode cX7_init 16 = .ok (.new 16, 3) := by decide +kernel
theorem dX7_init_19 : decode cX7_init 19 = .ok (.dup, 1) := by decide +kernel
theorem dX7_init_20 : decode cX7_init 20 = .ok (.aload_n 0, 1) := by decide +kernel
theorem dX7_init_21 : decode cX7_init 21 = .ok (.getfield 12, 3) := by decide +kernel
theorem dX7_init_24 : decode cX7_init 24 = .ok (.invokespecial 18, 3) := by decide +kernel
theorem dX7_init_27 : decode cX7_init 27 = .ok (.putfield 21, 3) := by decide +kernel
theorem dX7_init_30 : decode cX7_init 30 = .ok (.aload_n 0, 1) := by decide +kernel
theorem dX7_init_31 : decode cX7_init 31 = .ok (.new 25, 3) := by decide +kernel
theorem dX7_init_34 : decode cX7_init 34 = .ok (.dup, 1) := by decide +kernel
theorem dX7_init_35 : decode cX7_init 35 = .ok (.aload_n 0, 1) := by decide +kernel
theorem dX7_init_36 : decode cX7_init 36 = .ok (.getfield 12, 3) := by decide +kernel
theorem dX7_init_39 : decode cX7_init 39 = .ok (.invokespecial 27, 3) := by decide +kernel
theorem dX7_init_42 : decode cX7_init 42 = .ok (.putfield 28, 3) := by decide +kernel
theorem dX7_init_45 : decode cX7_init 45 = .ok (.aload_n 0, 1) := by decide +kernel
theorem dX7_init_46 : decode cX7_init 46 = .ok (.new 32, 3) := by decide +kernel
theorem dX7_init_49 : decode cX7_init 49 = .ok (.dup, 1) := by decide +kernel
theorem dX7_init_50 : decode cX7_init 50 = .ok (.aload_n 0, 1) := by decide +kernel
theorem dX7_init_51 : decode cX7_init 51 = .ok (.getfield 12, 3) := by decide +kernel
theorem dX7_init_54 : decode cX7_init 54 = .ok (.invokespecial 34, 3) := by decide +kernel
theorem dX7_init_57 : decode cX7_init 57 = .ok (.putfield 35, 3) := by decide +kernel
theorem dX7_init_60 : decode cX7_init 60 = .ok (.aload_n 0, 1) := by decide +kernel
theorem dX7_init_61 : decode cX7_init 61 = .ok (.new 39, 3) := by decide +kernel
theorem dX7_init_64 : decode cX7_init 64 = .ok (.dup, 1) := by decide +kernel
theorem dX7_init_65 : decode cX7_init 65 = .ok (.aload_n 0, 1) := by decide +kernel
theorem dX7_init_66 : decode cX7_init 66 = .ok (.getfield 12, 3) := by decide +kernel
theorem dX7_init_69 : decode cX7_init 69 = .ok (.invokespecial 41, 3) := by decide +kernel
theorem dX7_init_72 : decode cX7_init 72 = .ok (.putfield 42, 3) := by decide +kernel
theorem dX7_init_75 : decode cX7_init 75 = .ok (.aload_n 0, 1) := by decide +kernel
theorem dX7_init_76 : decode cX7_init 76 = .ok (.new 46, 3) := by decide +kernel
theorem dX7_init_79 : decode cX7_init 79 = .ok (.dup, 1) := by decide +kernel
theorem dX7_init_80 : decode cX7_init 80 = .ok (.aload_n 0, 1) := by decide +kernel
theorem dX7_init_81 : decode cX7_init 81 = .ok (.getfield 12, 3) := by decide +kernel
theorem dX7_init_84 : decode cX7_init 84 = .ok (.invokespecial 48, 3) := by decide +kernel
theorem dX7_init_87 : decode cX7_init 87 = .ok (.putfield 49, 3) := by decide +kernel
theorem dX7_init_90 : decode cX7_init 90 = .ok (.aload_n 0, 1) := by decide +kernel
theorem dX7_init_91 : decode cX7_init 91 = .ok (.new 53, 3) := by decide +kernel
theorem dX7_init_94 : decode cX7_init 94 = .ok (.dup, 1) := by decide +kernel
theorem dX7_init_95 : decode cX7_init 95 = .ok (.invokespecial 55, 3) := by decide +kernel
theorem dX7_init_98 : decode cX7_init 98 = .ok (.putfield 56, 3) := by decide +kernel
theorem dX7_init_101 : decode cX7_init 101 = .ok (.return_, 1) := by decide +kernel
theorem dX7_table_0 : decode cX7_table 0 = .ok (.iload_n 1, 1) := by decide +kernel
theorem dX7_table_1 : decode cX7_table 1 = .ok (.iconst 2, 1) := by decide +kernel
theorem dX7_table_2 : decode cX7_table 2 = .ok (.if_icmp .lt 9, 3) := by decide +kernel
theorem dX7_table_5 : decode cX7_table 5 = .ok (.iload_n 1, 1) := by decide +kernel
theorem dX7_table_6 : decode cX7_table 6 = .ok (.bipush 6, 2) := by decide +kernel
theorem dX7_table_8 : decode cX7_table 8 = .ok (.if_icmp .le 5, 3) := by decide +kernel
theorem dX7_table_11 : decode cX7_table 11 = .ok (.iconst (-1), 1) := by decide +kernel
theorem dX7_table_12 : decode cX7_table 12 = .ok (.ireturn, 1) := by decide +kernel
theorem dX7_table_13 : decode cX7_table 13 = .ok (.aload_n 0, 1) := by decide +kernel
theorem dX7_table_14 : decode cX7_table 14 = .ok (.getfield 12, 3) := by decide +kernel
theorem dX7_table_17 : decode cX7_table 17 = .ok (.iload_n 1, 1) := by decide +kernel
theorem dX7_table_18 : decode cX7_table 18 = .ok (.invokevirtual 60, 3) := by decide +kernel
theorem dX7_table_21 : decode cX7_table 21 = .ok (.iload_n 1, 1) := by decide +kernel
theorem dX7_table_22 : decode cX7_table 22 = .ok (.ireturn, 1) := by decide +kernel
theorem dX7_set_0 : decode cX7_set 0 = .ok (.aload_n 0, 1) := by decide +kernel
theorem dX7_set_1 : decode cX7_set 1 = .ok (.getfield 12, 3) := by decide +kernel
theorem dX7_set_4 : decode cX7_set 4 = .ok (.iload_n 1, 1) := by decide +kernel
theorem dX7_set_5 : decode cX7_set 5 = .ok (.iload_n 2, 1) := by decide +kernel
theorem dX7_set_6 : decode cX7_set 6 = .ok (.invokevirtual 64, 3) := by decide +kernel
theorem dX7_set_9 : decode cX7_set 9 = .ok (.ifCond .eq 18, 3) := by decide +kernel
theorem dX7_set_12 : decode cX7_set 12 = .ok (.iload_n 1, 1) := by decide +kernel
theorem dX7_set_13 : decode cX7_set 13 = .ok (.iload_n 2, 1) := by decide +kernel
theorem dX7_set_14 : decode cX7_set 14 = .ok (.if_icmp .eq 13, 3) := by decide +kernel
theorem dX7_set_17 : decode cX7_set 17 = .ok (.iload_n 3, 1) := by decide +kernel
theorem dX7_set_18 : decode cX7_set 18 = .ok (.ifCond .lt 9, 3) := by decide +kernel
theorem dX7_set_21 : decode cX7_set 21 = .ok (.iload_n 3, 1) := by decide +kernel
theorem dX7_set_22 : decode cX7_set 22 = .ok (.bipush 30, 2) := by decide +kernel
theorem dX7_set_24 : decode cX7_set 24 = .ok (.if_icmp .le 5, 3) := by decide +kernel
theorem dX7_set_27 : decode cX7_set 27 = .ok (.iconst (-1), 1) := by decide +kernel
theorem dX7_set_28 : decode cX7_set 28 = .ok (.ireturn, 1) := by decide +kernel
theorem dX7_set_29 : decode cX7_set 29 = .ok (.aload_n 0, 1) := by decide +kernel
theorem dX7_set_30 : decode cX7_set 30 = .ok (.getfield 12, 3) := by decide +kernel
theorem dX7_set_33 : decode cX7_set 33 = .ok (.iload_n 1, 1) := by decide +kernel
theorem dX7_set_34 : decode cX7_set 34 = .ok (.iload_n 2, 1) := by decide +kernel
theorem dX7_set_35 : decode cX7_set 35 = .ok (.invokevirtual 68, 3) := by decide +kernel
theorem dX7_set_38 : decode cX7_set 38 = .ok (.istore 4, 2) := by decide +kernel
theorem dX7_set_40 : decode cX7_set 40 = .ok (.aload_n 0, 1) := by decide +kernel
theorem dX7_set_41 : decode cX7_set 41 = .ok (.getfield 12, 3) := by decide +kernel
theorem dX7_set_44 : decode cX7_set 44 = .ok (.iload_n 1, 1) := by decide +kernel
theorem dX7_set_45 : decode cX7_set 45 = .ok (.iload_n 2, 1) := by decide +kernel
theorem dX7_set_46 : decode cX7_set 46 = .ok (.iload_n 3, 1) := by decide +kernel
theorem dX7_set_47 : decode cX7_set 47 = .ok (.invokevirtual 72, 3) := by decide +kernel
theorem dX7_set_50 : decode cX7_set 50 = .ok (.iload 4, 2) := by decide +kernel
theorem dX7_set_52 : decode cX7_set 52 = .ok (.ireturn, 1) := by decide +kernel
theorem dX7_at_0 : decode cX7_at 0 = .ok (.aload_n 0, 1) := by decide +kernel
theorem dX7_at_1 : decode cX7_at 1 = .ok (.getfield 12, 3) := by decide +kernel
theorem dX7_at_4 : decode cX7_at 4 = .ok (.iload_n 1, 1) := by decide +kernel
theorem dX7_at_5 : decode cX7_at 5 = .ok (.iload_n 2, 1) := by decide +kernel
theorem dX7_at_6 : decode cX7_at 6 = .ok (.invokevirtual 64, 3) := by decide +kernel
theorem dX7_at_9 : decode cX7_at 9 = .ok (.ifCond .eq 15, 3) := by decide +kernel
theorem dX7_at_12 : decode cX7_at 12 = .ok (.aload_n 0, 1) := by decide +kernel
theorem dX7_at_13 : decode cX7_at 13 = .ok (.getfield 12, 3) := by decide +kernel
theorem dX7_at_16 : decode cX7_at 16 = .ok (.iload_n 1, 1) := by decide +kernel
theorem dX7_at_17 : decode cX7_at 17 = .ok (.iload_n 2, 1) := by decide +kernel
theorem dX7_at_18 : decode cX7_at 18 = .ok (.invokevirtual 68, 3) := by decide +kernel
theorem dX7_at_21 : decode cX7_at 21 = .ok (.goto 4, 3) := by decide +kernel
theorem dX7_at_24 : decode cX7_at 24 = .ok (.iconst (-1), 1) := by decide +kernel
theorem dX7_at_25 : decode cX7_at 25 = .ok (.ireturn, 1) := by decide +kernel
theorem dX7_law_0 : decode cX7_law 0 = .ok (.iload_n 1, 1) := by decide +kernel
theorem dX7_law_1 : decode cX7_law 1 = .ok (.invokestatic 76, 3) := by decide +kernel
theorem dX7_law_4 : decode cX7_law 4 = .ok (.ifCond .ne 5, 3) := by decide +kernel
theorem dX7_law_7 : decode cX7_law 7 = .ok (.iconst (-1), 1) := by decide +kernel
theorem dX7_law_8 : decode cX7_law 8 = .ok (.ireturn, 1) := by decide +kernel
theorem dX7_law_9 : decode cX7_law 9 = .ok (.aload_n 0, 1) := by decide +kernel
theorem dX7_law_10 : decode cX7_law 10 = .ok (.getfield 21, 3) := by decide +kernel
theorem dX7_law_13 : decode cX7_law 13 = .ok (.iload_n 1, 1) := by decide +kernel
theorem dX7_law_14 : decode cX7_law 14 = .ok (.invokevirtual 80, 3) := by decide +kernel
theorem dX7_law_17 : decode cX7_law 17 = .ok (.aload_n 0, 1) := by decide +kernel
theorem dX7_law_18 : decode cX7_law 18 = .ok (.getfield 21, 3) := by decide +kernel
theorem dX7_law_21 : decode cX7_law 21 = .ok (.getfield 83, 3) := by decide +kernel
theorem dX7_law_24 : decode cX7_law 24 = .ok (.ireturn, 1) := by decide +kernel
theorem dX7_breaks_0 : decode cX7_breaks 0 = .ok (.iload_n 1, 1) := by decide +kernel
theorem dX7_breaks_1 : decode cX7_breaks 1 = .ok (.invokestatic 76, 3) := by decide +kernel
theorem dX7_breaks_4 : decode cX7_breaks 4 = .ok (.ifCond .ne 5, 3) := by decide +kernel
theorem dX7_breaks_7 : decode cX7_breaks 7 = .ok (.iconst (-1), 1) := by decide +kernel
theorem dX7_breaks_8 : decode cX7_breaks 8 = .ok (.ireturn, 1) := by decide +kernel
theorem dX7_breaks_9 : decode cX7_breaks 9 = .ok (.aload_n 0, 1) := by decide +kernel
theorem dX7_breaks_10 : decode cX7_breaks 10 = .ok (.getfield 21, 3) := by decide +kernel
theorem dX7_breaks_13 : decode cX7_breaks 13 = .ok (.iload_n 1, 1) := by decide +kernel
theorem dX7_breaks_14 : decode cX7_breaks 14 = .ok (.invokevirtual 80, 3) := by decide +kernel
theorem dX7_breaks_17 : decode cX7_breaks 17 = .ok (.aload_n 0, 1) := by decide +kernel
theorem dX7_breaks_18 : decode cX7_breaks 18 = .ok (.getfield 21, 3) := by decide +kernel
theorem dX7_breaks_21 : decode cX7_breaks 21 = .ok (.getfield 87, 3) := by decide +kernel
theorem dX7_breaks_24 : decode cX7_breaks 24 = .ok (.ireturn, 1) := by decide +kernel
theorem dX7_flat_0 : decode cX7_flat 0 = .ok (.aload_n 0, 1) := by decide +kernel
theorem dX7_flat_1 : decode cX7_flat 1 = .ok (.getfield 28, 3) := by decide +kernel
theorem dX7_flat_4 : decode cX7_flat 4 = .ok (.invokevirtual 90, 3) := by decide +kernel
theorem dX7_flat_7 : decode cX7_flat 7 = .ok (.ifCond .eq 7, 3) := by decide +kernel
theorem dX7_flat_10 : decode cX7_flat 10 = .ok (.iconst 1, 1) := by decide +kernel
theorem dX7_flat_11 : decode cX7_flat 11 = .ok (.goto 4, 3) := by decide +kernel
theorem dX7_flat_14 : decode cX7_flat 14 = .ok (.iconst 0, 1) := by decide +kernel
theorem dX7_flat_15 : decode cX7_flat 15 = .ok (.ireturn, 1) := by decide +kernel
theorem dX7_ways_0 : decode cX7_ways 0 = .ok (.aload_n 0, 1) := by decide +kernel
theorem dX7_ways_1 : decode cX7_ways 1 = .ok (.getfield 28, 3) := by decide +kernel
theorem dX7_ways_4 : decode cX7_ways 4 = .ok (.invokevirtual 94, 3) := by decide +kernel
theorem dX7_ways_7 : decode cX7_ways 7 = .ok (.ireturn, 1) := by decide +kernel
theorem dX7_bulk_0 : decode cX7_bulk 0 = .ok (.iload_n 1, 1) := by decide +kernel
theorem dX7_bulk_1 : decode cX7_bulk 1 = .ok (.iconst 2, 1) := by decide +kernel
theorem dX7_bulk_2 : decode cX7_bulk 2 = .ok (.if_icmp .lt 14, 3) := by decide +kernel
theorem dX7_bulk_5 : decode cX7_bulk 5 = .ok (.iload_n 1, 1) := by decide +kernel
theorem dX7_bulk_6 : decode cX7_bulk 6 = .ok (.aload_n 0, 1) := by decide +kernel
theorem dX7_bulk_7 : decode cX7_bulk 7 = .ok (.getfield 12, 3) := by decide +kernel
theorem dX7_bulk_10 : decode cX7_bulk 10 = .ok (.getfield 98, 3) := by decide +kernel
theorem dX7_bulk_13 : decode cX7_bulk 13 = .ok (.if_icmp .le 7, 3) := by decide +kernel
theorem dX7_bulk_16 : decode cX7_bulk 16 = .ok (.ldc2_w 101, 3) := by decide +kernel
theorem dX7_bulk_19 : decode cX7_bulk 19 = .ok (.lreturn, 1) := by decide +kernel
theorem dX7_bulk_20 : decode cX7_bulk 20 = .ok (.aload_n 0, 1) := by decide +kernel
theorem dX7_bulk_21 : decode cX7_bulk 21 = .ok (.getfield 28, 3) := by decide +kernel
theorem dX7_bulk_24 : decode cX7_bulk 24 = .ok (.iconst 1, 1) := by decide +kernel
theorem dX7_bulk_25 : decode cX7_bulk 25 = .ok (.iload_n 1, 1) := by decide +kernel
theorem dX7_bulk_26 : decode cX7_bulk 26 = .ok (.iconst 1, 1) := by decide +kernel
theorem dX7_bulk_27 : decode cX7_bulk 27 = .ok (.isub, 1) := by decide +kernel
theorem dX7_bulk_28 : decode cX7_bulk 28 = .ok (.ishl, 1) := by decide +kernel
theorem dX7_bulk_29 : decode cX7_bulk 29 = .ok (.iconst 1, 1) := by decide +kernel
theorem dX7_bulk_30 : decode cX7_bulk 30 = .ok (.isub, 1) := by decide +kernel
theorem dX7_bulk_31 : decode cX7_bulk 31 = .ok (.invokevirtual 103, 3) := by decide +kernel
theorem dX7_bulk_34 : decode cX7_bulk 34 = .ok (.lreturn, 1) := by decide +kernel
theorem dX7_add_0 : decode cX7_add 0 = .ok (.aload_n 0, 1) := by decide +kernel
theorem dX7_add_1 : decode cX7_add 1 = .ok (.getfield 12, 3) := by decide +kernel
theorem dX7_add_4 : decode cX7_add 4 = .ok (.iload_n 1, 1) := by decide +kernel
theorem dX7_add_5 : decode cX7_add 5 = .ok (.invokevirtual 107, 3) := by decide +kernel
theorem dX7_add_8 : decode cX7_add 8 = .ok (.ifCond .eq 15, 3) := by decide +kernel
theorem dX7_add_11 : decode cX7_add 11 = .ok (.iload_n 2, 1) := by decide +kernel
theorem dX7_add_12 : decode cX7_add 12 = .ok (.bipush (-30), 2) := by decide +kernel
theorem dX7_add_14 : decode cX7_add 14 = .ok (.if_icmp .lt 9, 3) := by decide +kernel
theorem dX7_add_17 : decode cX7_add 17 = .ok (.iload_n 2, 1) := by decide +kernel
theorem dX7_add_18 : decode cX7_add 18 = .ok (.bipush 30, 2) := by decide +kernel
theorem dX7_add_20 : decode cX7_add 20 = .ok (.if_icmp .le 5, 3) := by decide +kernel
theorem dX7_add_23 : decode cX7_add 23 = .ok (.iconst (-1), 1) := by decide +kernel
theorem dX7_add_24 : decode cX7_add 24 = .ok (.ireturn, 1) := by decide +kernel
theorem dX7_add_25 : decode cX7_add 25 = .ok (.aload_n 0, 1) := by decide +kernel
theorem dX7_add_26 : decode cX7_add 26 = .ok (.getfield 12, 3) := by decide +kernel
theorem dX7_add_29 : decode cX7_add 29 = .ok (.iload_n 1, 1) := by decide +kernel
theorem dX7_add_30 : decode cX7_add 30 = .ok (.iload_n 2, 1) := by decide +kernel
theorem dX7_add_31 : decode cX7_add 31 = .ok (.invokevirtual 110, 3) := by decide +kernel
theorem dX7_add_34 : decode cX7_add 34 = .ok (.ifCond .ne 6, 3) := by decide +kernel
theorem dX7_add_37 : decode cX7_add 37 = .ok (.bipush (-2), 2) := by decide +kernel
theorem dX7_add_39 : decode cX7_add 39 = .ok (.ireturn, 1) := by decide +kernel
theorem dX7_add_40 : decode cX7_add 40 = .ok (.aload_n 0, 1) := by decide +kernel
theorem dX7_add_41 : decode cX7_add 41 = .ok (.getfield 12, 3) := by decide +kernel
theorem dX7_add_44 : decode cX7_add 44 = .ok (.iload_n 1, 1) := by decide +kernel
theorem dX7_add_45 : decode cX7_add 45 = .ok (.iload_n 2, 1) := by decide +kernel
theorem dX7_add_46 : decode cX7_add 46 = .ok (.invokevirtual 113, 3) := by decide +kernel
theorem dX7_add_49 : decode cX7_add 49 = .ok (.iconst 0, 1) := by decide +kernel
theorem dX7_add_50 : decode cX7_add 50 = .ok (.ireturn, 1) := by decide +kernel
theorem dX7_peel_0 : decode cX7_peel 0 = .ok (.aload_n 0, 1) := by decide +kernel
theorem dX7_peel_1 : decode cX7_peel 1 = .ok (.getfield 12, 3) := by decide +kernel
theorem dX7_peel_4 : decode cX7_peel 4 = .ok (.iload_n 1, 1) := by decide +kernel
theorem dX7_peel_5 : decode cX7_peel 5 = .ok (.invokevirtual 107, 3) := by decide +kernel
theorem dX7_peel_8 : decode cX7_peel 8 = .ok (.ifCond .ne 5, 3) := by decide +kernel
theorem dX7_peel_11 : decode cX7_peel 11 = .ok (.iconst (-1), 1) := by decide +kernel
theorem dX7_peel_12 : decode cX7_peel 12 = .ok (.ireturn, 1) := by decide +kernel
theorem dX7_peel_13 : decode cX7_peel 13 = .ok (.aload_n 0, 1) := by decide +kernel
theorem dX7_peel_14 : decode cX7_peel 14 = .ok (.getfield 35, 3) := by decide +kernel
theorem dX7_peel_17 : decode cX7_peel 17 = .ok (.invokevirtual 117, 3) := by decide +kernel
theorem dX7_peel_20 : decode cX7_peel 20 = .ok (.aload_n 0, 1) := by decide +kernel
theorem dX7_peel_21 : decode cX7_peel 21 = .ok (.getfield 35, 3) := by decide +kernel
theorem dX7_peel_24 : decode cX7_peel 24 = .ok (.getfield 120, 3) := by decide +kernel
theorem dX7_peel_27 : decode cX7_peel 27 = .ok (.iload_n 1, 1) := by decide +kernel
theorem dX7_peel_28 : decode cX7_peel 28 = .ok (.iaload, 1) := by decide +kernel
theorem dX7_peel_29 : decode cX7_peel 29 = .ok (.ireturn, 1) := by decide +kernel
theorem dX7_left_0 : decode cX7_left 0 = .ok (.aload_n 0, 1) := by decide +kernel
theorem dX7_left_1 : decode cX7_left 1 = .ok (.getfield 12, 3) := by decide +kernel
theorem dX7_left_4 : decode cX7_left 4 = .ok (.iload_n 1, 1) := by decide +kernel
theorem dX7_left_5 : decode cX7_left 5 = .ok (.iload_n 2, 1) := by decide +kernel
theorem dX7_left_6 : decode cX7_left 6 = .ok (.invokevirtual 64, 3) := by decide +kernel
theorem dX7_left_9 : decode cX7_left 9 = .ok (.ifCond .ne 5, 3) := by decide +kernel
theorem dX7_left_12 : decode cX7_left 12 = .ok (.iconst (-1), 1) := by decide +kernel
theorem dX7_left_13 : decode cX7_left 13 = .ok (.ireturn, 1) := by decide +kernel
theorem dX7_left_14 : decode cX7_left 14 = .ok (.aload_n 0, 1) := by decide +kernel
theorem dX7_left_15 : decode cX7_left 15 = .ok (.getfield 35, 3) := by decide +kernel
theorem dX7_left_18 : decode cX7_left 18 = .ok (.invokevirtual 117, 3) := by decide +kernel
theorem dX7_left_21 : decode cX7_left 21 = .ok (.aload_n 0, 1) := by decide +kernel
theorem dX7_left_22 : decode cX7_left 22 = .ok (.getfield 35, 3) := by decide +kernel
theorem dX7_left_25 : decode cX7_left 25 = .ok (.getfield 124, 3) := by decide +kernel
theorem dX7_left_28 : decode cX7_left 28 = .ok (.iload_n 1, 1) := by decide +kernel
theorem dX7_left_29 : decode cX7_left 29 = .ok (.iload_n 2, 1) := by decide +kernel
theorem dX7_left_30 : decode cX7_left 30 = .ok (.invokevirtual 68, 3) := by decide +kernel
theorem dX7_left_33 : decode cX7_left 33 = .ok (.ireturn, 1) := by decide +kernel
theorem dX7_line_0 : decode cX7_line 0 = .ok (.iload_n 3, 1) := by decide +kernel
theorem dX7_line_1 : decode cX7_line 1 = .ok (.ifCond .lt 19, 3) := by decide +kernel
theorem dX7_line_4 : decode cX7_line 4 = .ok (.iload_n 3, 1) := by decide +kernel
theorem dX7_line_5 : decode cX7_line 5 = .ok (.iconst 2, 1) := by decide +kernel
theorem dX7_line_6 : decode cX7_line 6 = .ok (.if_icmp .gt 14, 3) := by decide +kernel
theorem dX7_line_9 : decode cX7_line 9 = .ok (.aload_n 0, 1) := by decide +kernel
theorem dX7_line_10 : decode cX7_line 10 = .ok (.getfield 42, 3) := by decide +kernel
theorem dX7_line_13 : decode cX7_line 13 = .ok (.iload_n 1, 1) := by decide +kernel
theorem dX7_line_14 : decode cX7_line 14 = .ok (.invokevirtual 127, 3) := by decide +kernel
theorem dX7_line_17 : decode cX7_line 17 = .ok (.ifCond .ne 5, 3) := by decide +kernel
theorem dX7_line_20 : decode cX7_line 20 = .ok (.iconst (-1), 1) := by decide +kernel
theorem dX7_line_21 : decode cX7_line 21 = .ok (.ireturn, 1) := by decide +kernel
theorem dX7_line_22 : decode cX7_line 22 = .ok (.iload_n 3, 1) := by decide +kernel
theorem dX7_line_23 : decode cX7_line 23 = .ok (.ifCond .ne 16, 3) := by decide +kernel
theorem dX7_line_26 : decode cX7_line 26 = .ok (.aload_n 0, 1) := by decide +kernel
theorem dX7_line_27 : decode cX7_line 27 = .ok (.getfield 12, 3) := by decide +kernel
theorem dX7_line_30 : decode cX7_line 30 = .ok (.iload_n 2, 1) := by decide +kernel
theorem dX7_line_31 : decode cX7_line 31 = .ok (.invokevirtual 130, 3) := by decide +kernel
theorem dX7_line_34 : decode cX7_line 34 = .ok (.ifCond .ne 5, 3) := by decide +kernel
theorem dX7_line_37 : decode cX7_line 37 = .ok (.iconst (-1), 1) := by decide +kernel
theorem dX7_line_38 : decode cX7_line 38 = .ok (.ireturn, 1) := by decide +kernel
theorem dX7_line_39 : decode cX7_line 39 = .ok (.aload_n 0, 1) := by decide +kernel
theorem dX7_line_40 : decode cX7_line 40 = .ok (.getfield 42, 3) := by decide +kernel
theorem dX7_line_43 : decode cX7_line 43 = .ok (.iload_n 1, 1) := by decide +kernel
theorem dX7_line_44 : decode cX7_line 44 = .ok (.invokevirtual 133, 3) := by decide +kernel
theorem dX7_line_47 : decode cX7_line 47 = .ok (.iload_n 3, 1) := by decide +kernel
theorem dX7_line_48 : decode cX7_line 48 = .ok (.ifCond .ne 15, 3) := by decide +kernel
theorem dX7_line_51 : decode cX7_line 51 = .ok (.aload_n 0, 1) := by decide +kernel
theorem dX7_line_52 : decode cX7_line 52 = .ok (.getfield 42, 3) := by decide +kernel
theorem dX7_line_55 : decode cX7_line 55 = .ok (.getfield 136, 3) := by decide +kernel
theorem dX7_line_58 : decode cX7_line 58 = .ok (.iload_n 2, 1) := by decide +kernel
theorem dX7_line_59 : decode cX7_line 59 = .ok (.iaload, 1) := by decide +kernel
theorem dX7_line_60 : decode cX7_line 60 = .ok (.goto 11, 3) := by decide +kernel
theorem dX7_line_63 : decode cX7_line 63 = .ok (.aload_n 0, 1) := by decide +kernel
theorem dX7_line_64 : decode cX7_line 64 = .ok (.getfield 42, 3) := by decide +kernel
theorem dX7_line_67 : decode cX7_line 67 = .ok (.iload_n 3, 1) := by decide +kernel
theorem dX7_line_68 : decode cX7_line 68 = .ok (.invokevirtual 139, 3) := by decide +kernel
theorem dX7_line_71 : decode cX7_line 71 = .ok (.ireturn, 1) := by decide +kernel
theorem dX7_best_0 : decode cX7_best 0 = .ok (.iload_n 1, 1) := by decide +kernel
theorem dX7_best_1 : decode cX7_best 1 = .ok (.ifCond .lt 8, 3) := by decide +kernel
theorem dX7_best_4 : decode cX7_best 4 = .ok (.iload_n 1, 1) := by decide +kernel
theorem dX7_best_5 : decode cX7_best 5 = .ok (.iconst 2, 1) := by decide +kernel
theorem dX7_best_6 : decode cX7_best 6 = .ok (.if_icmp .le 5, 3) := by decide +kernel
theorem dX7_best_9 : decode cX7_best 9 = .ok (.iconst (-1), 1) := by decide +kernel
theorem dX7_best_10 : decode cX7_best 10 = .ok (.ireturn, 1) := by decide +kernel
theorem dX7_best_11 : decode cX7_best 11 = .ok (.aload_n 0, 1) := by decide +kernel
theorem dX7_best_12 : decode cX7_best 12 = .ok (.getfield 42, 3) := by decide +kernel
theorem dX7_best_15 : decode cX7_best 15 = .ok (.invokevirtual 143, 3) := by decide +kernel
theorem dX7_best_18 : decode cX7_best 18 = .ok (.istore_n 2, 1) := by decide +kernel
theorem dX7_best_19 : decode cX7_best 19 = .ok (.iload_n 1, 1) := by decide +kernel
theorem dX7_best_20 : decode cX7_best 20 = .ok (.ifCond .ne 5, 3) := by decide +kernel
theorem dX7_best_23 : decode cX7_best 23 = .ok (.iload_n 2, 1) := by decide +kernel
theorem dX7_best_24 : decode cX7_best 24 = .ok (.ireturn, 1) := by decide +kernel
theorem dX7_best_25 : decode cX7_best 25 = .ok (.aload_n 0, 1) := by decide +kernel
theorem dX7_best_26 : decode cX7_best 26 = .ok (.getfield 42, 3) := by decide +kernel
theorem dX7_best_29 : decode cX7_best 29 = .ok (.iload_n 2, 1) := by decide +kernel
theorem dX7_best_30 : decode cX7_best 30 = .ok (.invokevirtual 133, 3) := by decide +kernel
theorem dX7_best_33 : decode cX7_best 33 = .ok (.aload_n 0, 1) := by decide +kernel
theorem dX7_best_34 : decode cX7_best 34 = .ok (.getfield 42, 3) := by decide +kernel
theorem dX7_best_37 : decode cX7_best 37 = .ok (.iload_n 1, 1) := by decide +kernel
theorem dX7_best_38 : decode cX7_best 38 = .ok (.invokevirtual 139, 3) := by decide +kernel
theorem dX7_best_41 : decode cX7_best 41 = .ok (.ireturn, 1) := by decide +kernel
theorem dX7_centres_0 : decode cX7_centres 0 = .ok (.iload_n 1, 1) := by decide +kernel
theorem dX7_centres_1 : decode cX7_centres 1 = .ok (.iconst 1, 1) := by decide +kernel
theorem dX7_centres_2 : decode cX7_centres 2 = .ok (.if_icmp .lt 32, 3) := by decide +kernel
theorem dX7_centres_5 : decode cX7_centres 5 = .ok (.iload_n 1, 1) := by decide +kernel
theorem dX7_centres_6 : decode cX7_centres 6 = .ok (.aload_n 0, 1) := by decide +kernel
theorem dX7_centres_7 : decode cX7_centres 7 = .ok (.getfield 12, 3) := by decide +kernel
theorem dX7_centres_10 : decode cX7_centres 10 = .ok (.getfield 98, 3) := by decide +kernel
theorem dX7_centres_13 : decode cX7_centres 13 = .ok (.if_icmp .gt 21, 3) := by decide +kernel
theorem dX7_centres_16 : decode cX7_centres 16 = .ok (.iload_n 2, 1) := by decide +kernel
theorem dX7_centres_17 : decode cX7_centres 17 = .ok (.ifCond .lt 17, 3) := by decide +kernel
theorem dX7_centres_20 : decode cX7_centres 20 = .ok (.iload_n 2, 1) := by decide +kernel
theorem dX7_centres_21 : decode cX7_centres 21 = .ok (.iconst 1, 1) := by decide +kernel
theorem dX7_centres_22 : decode cX7_centres 22 = .ok (.if_icmp .gt 12, 3) := by decide +kernel
theorem dX7_centres_25 : decode cX7_centres 25 = .ok (.iload_n 3, 1) := by decide +kernel
theorem dX7_centres_26 : decode cX7_centres 26 = .ok (.ifCond .lt 8, 3) := by decide +kernel
theorem dX7_centres_29 : decode cX7_centres 29 = .ok (.iload_n 3, 1) := by decide +kernel
theorem dX7_centres_30 : decode cX7_centres 30 = .ok (.iconst 1, 1) := by decide +kernel
theorem dX7_centres_31 : decode cX7_centres 31 = .ok (.if_icmp .le 5, 3) := by decide +kernel
theorem dX7_centres_34 : decode cX7_centres 34 = .ok (.iconst (-1), 1) := by decide +kernel
theorem dX7_centres_35 : decode cX7_centres 35 = .ok (.ireturn, 1) := by decide +kernel
theorem dX7_centres_36 : decode cX7_centres 36 = .ok (.aload_n 0, 1) := by decide +kernel
theorem dX7_centres_37 : decode cX7_centres 37 = .ok (.getfield 49, 3) := by decide +kernel
theorem dX7_centres_40 : decode cX7_centres 40 = .ok (.iload_n 1, 1) := by decide +kernel
theorem dX7_centres_41 : decode cX7_centres 41 = .ok (.iload_n 2, 1) := by decide +kernel
theorem dX7_centres_42 : decode cX7_centres 42 = .ok (.iconst 1, 1) := by decide +kernel
theorem dX7_centres_43 : decode cX7_centres 43 = .ok (.if_icmp .ne 7, 3) := by decide +kernel
theorem dX7_centres_46 : decode cX7_centres 46 = .ok (.iconst 1, 1) := by decide +kernel
theorem dX7_centres_47 : decode cX7_centres 47 = .ok (.goto 4, 3) := by decide +kernel
theorem dX7_centres_50 : decode cX7_centres 50 = .ok (.iconst 0, 1) := by decide +kernel
theorem dX7_centres_51 : decode cX7_centres 51 = .ok (.invokevirtual 146, 3) := by decide +kernel
theorem dX7_centres_54 : decode cX7_centres 54 = .ok (.istore 4, 2) := by decide +kernel
theorem dX7_centres_56 : decode cX7_centres 56 = .ok (.iload_n 3, 1) := by decide +kernel
theorem dX7_centres_57 : decode cX7_centres 57 = .ok (.ifCond .ne 8, 3) := by decide +kernel
theorem dX7_centres_60 : decode cX7_centres 60 = .ok (.iload 4, 2) := by decide +kernel
theorem dX7_centres_62 : decode cX7_centres 62 = .ok (.goto 22, 3) := by decide +kernel
theorem dX7_centres_65 : decode cX7_centres 65 = .ok (.aload_n 0, 1) := by decide +kernel
theorem dX7_centres_66 : decode cX7_centres 66 = .ok (.getfield 49, 3) := by decide +kernel
theorem dX7_centres_69 : decode cX7_centres 69 = .ok (.iload 4, 2) := by decide +kernel
theorem dX7_centres_71 : decode cX7_centres 71 = .ok (.iload_n 2, 1) := by decide +kernel
theorem dX7_centres_72 : decode cX7_centres 72 = .ok (.iconst 1, 1) := by decide +kernel
theorem dX7_centres_73 : decode cX7_centres 73 = .ok (.if_icmp .ne 7, 3) := by decide +kernel
theorem dX7_centres_76 : decode cX7_centres 76 = .ok (.iconst 1, 1) := by decide +kernel
theorem dX7_centres_77 : decode cX7_centres 77 = .ok (.goto 4, 3) := by decide +kernel
theorem dX7_centres_80 : decode cX7_centres 80 = .ok (.iconst 0, 1) := by decide +kernel
theorem dX7_centres_81 : decode cX7_centres 81 = .ok (.invokevirtual 150, 3) := by decide +kernel
theorem dX7_centres_84 : decode cX7_centres 84 = .ok (.ireturn, 1) := by decide +kernel
theorem dX7_number_0 : decode cX7_number 0 = .ok (.iload_n 1, 1) := by decide +kernel
theorem dX7_number_1 : decode cX7_number 1 = .ok (.ifCond .lt 23, 3) := by decide +kernel
theorem dX7_number_4 : decode cX7_number 4 = .ok (.iload_n 1, 1) := by decide +kernel
theorem dX7_number_5 : decode cX7_number 5 = .ok (.bipush 10, 2) := by decide +kernel
theorem dX7_number_7 : decode cX7_number 7 = .ok (.if_icmp .ge 17, 3) := by decide +kernel
theorem dX7_number_10 : decode cX7_number 10 = .ok (.iload_n 2, 1) := by decide +kernel
theorem dX7_number_11 : decode cX7_number 11 = .ok (.sipush (-1000), 3) := by decide +kernel
theorem dX7_number_14 : decode cX7_number 14 = .ok (.if_icmp .lt 10, 3) := by decide +kernel
theorem dX7_number_17 : decode cX7_number 17 = .ok (.iload_n 2, 1) := by decide +kernel
theorem dX7_number_18 : decode cX7_number 18 = .ok (.sipush 1000, 3) := by decide +kernel
theorem dX7_number_21 : decode cX7_number 21 = .ok (.if_icmp .le 7, 3) := by decide +kernel
theorem dX7_number_24 : decode cX7_number 24 = .ok (.sipush (-10000), 3) := by decide +kernel
theorem dX7_number_27 : decode cX7_number 27 = .ok (.ireturn, 1) := by decide +kernel
theorem dX7_number_28 : decode cX7_number 28 = .ok (.aload_n 0, 1) := by decide +kernel
theorem dX7_number_29 : decode cX7_number 29 = .ok (.getfield 56, 3) := by decide +kernel
theorem dX7_number_32 : decode cX7_number 32 = .ok (.getfield 153, 3) := by decide +kernel
theorem dX7_number_35 : decode cX7_number 35 = .ok (.iload_n 1, 1) := by decide +kernel
theorem dX7_number_36 : decode cX7_number 36 = .ok (.iaload, 1) := by decide +kernel
theorem dX7_number_37 : decode cX7_number 37 = .ok (.istore_n 3, 1) := by decide +kernel
theorem dX7_number_38 : decode cX7_number 38 = .ok (.aload_n 0, 1) := by decide +kernel
theorem dX7_number_39 : decode cX7_number 39 = .ok (.getfield 56, 3) := by decide +kernel
theorem dX7_number_42 : decode cX7_number 42 = .ok (.getfield 153, 3) := by decide +kernel
theorem dX7_number_45 : decode cX7_number 45 = .ok (.iload_n 1, 1) := by decide +kernel
theorem dX7_number_46 : decode cX7_number 46 = .ok (.iload_n 2, 1) := by decide +kernel
theorem dX7_number_47 : decode cX7_number 47 = .ok (.iastore, 1) := by decide +kernel
theorem dX7_number_48 : decode cX7_number 48 = .ok (.iload_n 3, 1) := by decide +kernel
theorem dX7_number_49 : decode cX7_number 49 = .ok (.ireturn, 1) := by decide +kernel
theorem dX7_signs_0 : decode cX7_signs 0 = .ok (.iload_n 1, 1) := by decide +kernel
theorem dX7_signs_1 : decode cX7_signs 1 = .ok (.invokestatic 156, 3) := by decide +kernel
theorem dX7_signs_4 : decode cX7_signs 4 = .ok (.ifCond .eq 14, 3) := by decide +kernel
theorem dX7_signs_7 : decode cX7_signs 7 = .ok (.iload_n 2, 1) := by decide +kernel
theorem dX7_signs_8 : decode cX7_signs 8 = .ok (.ifCond .lt 10, 3) := by decide +kernel
theorem dX7_signs_11 : decode cX7_signs 11 = .ok (.iload_n 2, 1) := by decide +kernel
theorem dX7_signs_12 : decode cX7_signs 12 = .ok (.sipush 10000, 3) := by decide +kernel
theorem dX7_signs_15 : decode cX7_signs 15 = .ok (.if_icmp .le 5, 3) := by decide +kernel
theorem dX7_signs_18 : decode cX7_signs 18 = .ok (.iconst (-1), 1) := by decide +kernel
theorem dX7_signs_19 : decode cX7_signs 19 = .ok (.ireturn, 1) := by decide +kernel
theorem dX7_signs_20 : decode cX7_signs 20 = .ok (.aload_n 0, 1) := by decide +kernel
theorem dX7_signs_21 : decode cX7_signs 21 = .ok (.getfield 56, 3) := by decide +kernel
theorem dX7_signs_24 : decode cX7_signs 24 = .ok (.iload_n 1, 1) := by decide +kernel
theorem dX7_signs_25 : decode cX7_signs 25 = .ok (.iload_n 2, 1) := by decide +kernel
theorem dX7_signs_26 : decode cX7_signs 26 = .ok (.invokevirtual 159, 3) := by decide +kernel
theorem dX7_signs_29 : decode cX7_signs 29 = .ok (.ireturn, 1) := by decide +kernel
theorem dX7_least_0 : decode cX7_least 0 = .ok (.iload_n 1, 1) := by decide +kernel
theorem dX7_least_1 : decode cX7_least 1 = .ok (.invokestatic 156, 3) := by decide +kernel
theorem dX7_least_4 : decode cX7_least 4 = .ok (.ifCond .eq 12, 3) := by decide +kernel
theorem dX7_least_7 : decode cX7_least 7 = .ok (.iload_n 2, 1) := by decide +kernel
theorem dX7_least_8 : decode cX7_least 8 = .ok (.ifCond .lt 8, 3) := by decide +kernel
theorem dX7_least_11 : decode cX7_least 11 = .ok (.iload_n 2, 1) := by decide +kernel
theorem dX7_least_12 : decode cX7_least 12 = .ok (.iconst 1, 1) := by decide +kernel
theorem dX7_least_13 : decode cX7_least 13 = .ok (.if_icmp .le 5, 3) := by decide +kernel
theorem dX7_least_16 : decode cX7_least 16 = .ok (.iconst (-1), 1) := by decide +kernel
theorem dX7_least_17 : decode cX7_least 17 = .ok (.ireturn, 1) := by decide +kernel
theorem dX7_least_18 : decode cX7_least 18 = .ok (.aload_n 0, 1) := by decide +kernel
theorem dX7_least_19 : decode cX7_least 19 = .ok (.getfield 56, 3) := by decide +kernel
theorem dX7_least_22 : decode cX7_least 22 = .ok (.iload_n 1, 1) := by decide +kernel
theorem dX7_least_23 : decode cX7_least 23 = .ok (.invokevirtual 162, 3) := by decide +kernel
theorem dX7_least_26 : decode cX7_least 26 = .ok (.istore_n 3, 1) := by decide +kernel
theorem dX7_least_27 : decode cX7_least 27 = .ok (.iload_n 2, 1) := by decide +kernel
theorem dX7_least_28 : decode cX7_least 28 = .ok (.ifCond .ne 7, 3) := by decide +kernel
theorem dX7_least_31 : decode cX7_least 31 = .ok (.iload_n 3, 1) := by decide +kernel
theorem dX7_least_32 : decode cX7_least 32 = .ok (.goto 12, 3) := by decide +kernel
theorem dX7_least_35 : decode cX7_least 35 = .ok (.aload_n 0, 1) := by decide +kernel
theorem dX7_least_36 : decode cX7_least 36 = .ok (.getfield 56, 3) := by decide +kernel
theorem dX7_least_39 : decode cX7_least 39 = .ok (.iload_n 1, 1) := by decide +kernel
theorem dX7_least_40 : decode cX7_least 40 = .ok (.iload_n 3, 1) := by decide +kernel
theorem dX7_least_41 : decode cX7_least 41 = .ok (.invokevirtual 165, 3) := by decide +kernel
theorem dX7_least_44 : decode cX7_least 44 = .ok (.ireturn, 1) := by decide +kernel
theorem dX7_count_0 : decode cX7_count 0 = .ok (.aload_n 0, 1) := by decide +kernel
theorem dX7_count_1 : decode cX7_count 1 = .ok (.getfield 12, 3) := by decide +kernel
theorem dX7_count_4 : decode cX7_count 4 = .ok (.getfield 98, 3) := by decide +kernel
theorem dX7_count_7 : decode cX7_count 7 = .ok (.ireturn, 1) := by decide +kernel
theorem dX7_holds_0 : decode cX7_holds 0 = .ok (.iload_n 0, 1) := by decide +kernel
theorem dX7_holds_1 : decode cX7_holds 1 = .ok (.iload_n 1, 1) := by decide +kernel
theorem dX7_holds_2 : decode cX7_holds 2 = .ok (.ishr, 1) := by decide +kernel
theorem dX7_holds_3 : decode cX7_holds 3 = .ok (.iconst 1, 1) := by decide +kernel
theorem dX7_holds_4 : decode cX7_holds 4 = .ok (.iand, 1) := by decide +kernel
theorem dX7_holds_5 : decode cX7_holds 5 = .ok (.iconst 1, 1) := by decide +kernel
theorem dX7_holds_6 : decode cX7_holds 6 = .ok (.if_icmp .ne 7, 3) := by decide +kernel
theorem dX7_holds_9 : decode cX7_holds 9 = .ok (.iconst 1, 1) := by decide +kernel
theorem dX7_holds_10 : decode cX7_holds 10 = .ok (.goto 4, 3) := by decide +kernel
theorem dX7_holds_13 : decode cX7_holds 13 = .ok (.iconst 0, 1) := by decide +kernel
theorem dX7_holds_14 : decode cX7_holds 14 = .ok (.ireturn, 1) := by decide +kernel
theorem dX7_parts_0 : decode cX7_parts 0 = .ok (.iload_n 0, 1) := by decide +kernel
theorem dX7_parts_1 : decode cX7_parts 1 = .ok (.iload_n 1, 1) := by decide +kernel
theorem dX7_parts_2 : decode cX7_parts 2 = .ok (.invokestatic 168, 3) := by decide +kernel
theorem dX7_parts_5 : decode cX7_parts 5 = .ok (.iload_n 0, 1) := by decide +kernel
theorem dX7_parts_6 : decode cX7_parts 6 = .ok (.iload_n 2, 1) := by decide +kernel
theorem dX7_parts_7 : decode cX7_parts 7 = .ok (.invokestatic 168, 3) := by decide +kernel
theorem dX7_parts_10 : decode cX7_parts 10 = .ok (.if_icmp .eq 7, 3) := by decide +kernel
theorem dX7_parts_13 : decode cX7_parts 13 = .ok (.iconst 1, 1) := by decide +kernel
theorem dX7_parts_14 : decode cX7_parts 14 = .ok (.goto 4, 3) := by decide +kernel
theorem dX7_parts_17 : decode cX7_parts 17 = .ok (.iconst 0, 1) := by decide +kernel
theorem dX7_parts_18 : decode cX7_parts 18 = .ok (.ireturn, 1) := by decide +kernel
theorem dX8_init_0 : decode cX8_init 0 = .ok (.aload_n 0, 1) := by decide +kernel
theorem dX8_init_1 : decode cX8_init 1 = .ok (.invokespecial 1, 3) := by decide +kernel
theorem dX8_init_4 : decode cX8_init 4 = .ok (.aload_n 0, 1) := by decide +kernel
theorem dX8_init_5 : decode cX8_init 5 = .ok (.iconst 2, 1) := by decide +kernel
theorem dX8_init_6 : decode cX8_init 6 = .ok (.putfield 7, 3) := by decide +kernel
theorem dX8_init_9 : decode cX8_init 9 = .ok (.aload_n 0, 1) := by decide +kernel
theorem dX8_init_10 : decode cX8_init 10 = .ok (.bipush 36, 2) := by decide +kernel
theorem dX8_init_12 : decode cX8_init 12 = .ok (.newarray .int, 2) := by decide +kernel
theorem dX8_init_14 : decode cX8_init 14 = .ok (.putfield 13, 3) := by decide +kernel
theorem dX8_init_17 : decode cX8_init 17 = .ok (.aload_n 0, 1) := by decide +kernel
theorem dX8_init_18 : decode cX8_init 18 = .ok (.bipush 36, 2) := by decide +kernel
theorem dX8_init_20 : decode cX8_init 20 = .ok (.newarray .int, 2) := by decide +kernel
theorem dX8_init_22 : decode cX8_init 22 = .ok (.putfield 17, 3) := by decide +kernel
theorem dX8_init_25 : decode cX8_init 25 = .ok (.aload_n 0, 1) := by decide +kernel
theorem dX8_init_26 : decode cX8_init 26 = .ok (.bipush 64, 2) := by decide +kernel
theorem dX8_init_28 : decode cX8_init 28 = .ok (.newarray .int, 2) := by decide +kernel
theorem dX8_init_30 : decode cX8_init 30 = .ok (.putfield 20, 3) := by decide +kernel
theorem dX8_init_33 : decode cX8_init 33 = .ok (.aload_n 0, 1) := by decide +kernel
theorem dX8_init_34 : decode cX8_init 34 = .ok (.bipush 10, 2) := by decide +kernel
theorem dX8_init_36 : decode cX8_init 36 = .ok (.newarray .int, 2) := by decide +kernel
theorem dX8_init_38 : decode cX8_init 38 = .ok (.putfield 23, 3) := by decide +kernel
theorem dX8_init_41 : decode cX8_init 41 = .ok (.aload_n 0, 1) := by decide +kernel
theorem dX8_init_42 : decode cX8_init 42 = .ok (.iconst 5, 1) := by decide +kernel
theorem dX8_init_43 : decode cX8_init 43 = .ok (.newarray .int, 2) := by decide +kernel
theorem dX8_init_45 : decode cX8_init 45 = .ok (.putfield 26, 3) := by decide +kernel
theorem dX8_init_48 : decode cX8_init 48 = .ok (.aload_n 0, 1) := by decide +kernel
theorem dX8_init_49 : decode cX8_init 49 = .ok (.bipush 32, 2) := by decide +kernel
theorem dX8_init_51 : decode cX8_init 51 = .ok (.newarray .long, 2) := by decide +kernel
theorem dX8_init_53 : decode cX8_init 53 = .ok (.putfield 29, 3) := by decide +kernel
theorem dX8_init_56 : decode cX8_init 56 = .ok (.aload_n 0, 1) := by decide +kernel
theorem dX8_init_57 : decode cX8_init 57 = .ok (.bipush 6, 2) := by decide +kernel
theorem dX8_init_59 : decode cX8_init 59 = .ok (.newarray .int, 2) := by decide +kernel
theorem dX8_init_61 : decode cX8_init 61 = .ok (.putfield 33, 3) := by decide +kernel
theorem dX8_init_64 : decode cX8_init 64 = .ok (.aload_n 0, 1) := by decide +kernel
theorem dX8_init_65 : decode cX8_init 65 = .ok (.invokevirtual 36, 3) := by decide +kernel
theorem dX8_init_68 : decode cX8_init 68 = .ok (.return_, 1) := by decide +kernel
theorem dX8_in_0 : decode cX8_in 0 = .ok (.iload_n 0, 1) := by decide +kernel
theorem dX8_in_1 : decode cX8_in 1 = .ok (.iload_n 1, 1) := by decide +kernel
theorem dX8_in_2 : decode cX8_in 2 = .ok (.if_icmp .lt 12, 3) := by decide +kernel
theorem dX8_in_5 : decode cX8_in 5 = .ok (.iload_n 0, 1) := by decide +kernel
theorem dX8_in_6 : decode cX8_in 6 = .ok (.iload_n 2, 1) := by decide +kernel
theorem dX8_in_7 : decode cX8_in 7 = .ok (.if_icmp .gt 7, 3) := by decide +kernel
theorem dX8_in_10 : decode cX8_in 10 = .ok (.iconst 1, 1) := by decide +kernel
theorem dX8_in_11 : decode cX8_in 11 = .ok (.goto 4, 3) := by decide +kernel
theorem dX8_in_14 : decode cX8_in 14 = .ok (.iconst 0, 1) := by decide +kernel
theorem dX8_in_15 : decode cX8_in 15 = .ok (.ireturn, 1) := by decide +kernel
theorem dX8_fills_0 : decode cX8_fills 0 = .ok (.iconst 0, 1) := by decide +kernel
theorem dX8_fills_1 : decode cX8_fills 1 = .ok (.istore_n 1, 1) := by decide +kernel
theorem dX8_fills_2 : decode cX8_fills 2 = .ok (.iload_n 1, 1) := by decide +kernel
theorem dX8_fills_3 : decode cX8_fills 3 = .ok (.bipush 36, 2) := by decide +kernel
theorem dX8_fills_5 : decode cX8_fills 5 = .ok (.if_icmp .ge 31, 3) := by decide +kernel
theorem dX8_fills_8 : decode cX8_fills 8 = .ok (.aload_n 0, 1) := by decide +kernel
theorem dX8_fills_9 : decode cX8_fills 9 = .ok (.getfield 13, 3) := by decide +kernel
theorem dX8_fills_12 : decode cX8_fills 12 = .ok (.iload_n 1, 1) := by decide +kernel
theorem dX8_fills_13 : decode cX8_fills 13 = .ok (.iload_n 1, 1) := by decide +kernel
theorem dX8_fills_14 : decode cX8_fills 14 = .ok (.bipush 6, 2) := by decide +kernel
theorem dX8_fills_16 : decode cX8_fills 16 = .ok (.idiv, 1) := by decide +kernel
theorem dX8_fills_17 : decode cX8_fills 17 = .ok (.iload_n 1, 1) := by decide +kernel
theorem dX8_fills_18 : decode cX8_fills 18 = .ok (.bipush 6, 2) := by decide +kernel
theorem dX8_fills_20 : decode cX8_fills 20 = .ok (.irem, 1) := by decide +kernel
theorem dX8_fills_21 : decode cX8_fills 21 = .ok (.if_icmp .ne 7, 3) := by decide +kernel
theorem dX8_fills_24 : decode cX8_fills 24 = .ok (.iconst 0, 1) := by decide +kernel
theorem dX8_fills_25 : decode cX8_fills 25 = .ok (.goto 4, 3) := by decide +kernel
theorem dX8_fills_28 : decode cX8_fills 28 = .ok (.iconst 1, 1) := by decide +kernel
theorem dX8_fills_29 : decode cX8_fills 29 = .ok (.iastore, 1) := by decide +kernel
theorem dX8_fills_30 : decode cX8_fills 30 = .ok (.iinc 1 1, 3) := by decide +kernel
theorem dX8_fills_33 : decode cX8_fills 33 = .ok (.goto (-31), 3) := by decide +kernel
theorem dX8_fills_36 : decode cX8_fills 36 = .ok (.return_, 1) := by decide +kernel
theorem dX8_dist_0 : decode cX8_dist 0 = .ok (.aload_n 0, 1) := by decide +kernel
theorem dX8_dist_1 : decode cX8_dist 1 = .ok (.getfield 13, 3) := by decide +kernel
theorem dX8_dist_4 : decode cX8_dist 4 = .ok (.bipush 6, 2) := by decide +kernel
theorem dX8_dist_6 : decode cX8_dist 6 = .ok (.iload_n 1, 1) := by decide +kernel
theorem dX8_dist_7 : decode cX8_dist 7 = .ok (.imul, 1) := by decide +kernel
theorem dX8_dist_8 : decode cX8_dist 8 = .ok (.iload_n 2, 1) := by decide +kernel
theorem dX8_dist_9 : decode cX8_dist 9 = .ok (.iadd, 1) := by decide +kernel
theorem dX8_dist_10 : decode cX8_dist 10 = .ok (.iaload, 1) := by decide +kernel
theorem dX8_dist_11 : decode cX8_dist 11 = .ok (.ireturn, 1) := by decide +kernel
theorem dX8_table_0 : decode cX8_table 0 = .ok (.iload_n 1, 1) := by decide +kernel
theorem dX8_table_1 : decode cX8_table 1 = .ok (.iconst 2, 1) := by decide +kernel
theorem dX8_table_2 : decode cX8_table 2 = .ok (.bipush 6, 2) := by decide +kernel
theorem dX8_table_4 : decode cX8_table 4 = .ok (.invokestatic 39, 3) := by decide +kernel
theorem dX8_table_7 : decode cX8_table 7 = .ok (.ifCond .ne 5, 3) := by decide +kernel
theorem dX8_table_10 : decode cX8_table 10 = .ok (.iconst (-1), 1) := by decide +kernel
theorem dX8_table_11 : decode cX8_table 11 = .ok (.ireturn, 1) := by decide +kernel
theorem dX8_table_12 : decode cX8_table 12 = .ok (.aload_n 0, 1) := by decide +kernel
theorem dX8_table_13 : decode cX8_table 13 = .ok (.iload_n 1, 1) := by decide +kernel
theorem dX8_table_14 : decode cX8_table 14 = .ok (.putfield 7, 3) := by decide +kernel
theorem dX8_table_17 : decode cX8_table 17 = .ok (.aload_n 0, 1) := by decide +kernel
theorem dX8_table_18 : decode cX8_table 18 = .ok (.invokevirtual 36, 3) := by decide +kernel
theorem dX8_table_21 : decode cX8_table 21 = .ok (.aload_n 0, 1) := by decide +kernel
theorem dX8_table_22 : decode cX8_table 22 = .ok (.getfield 7, 3) := by decide +kernel
theorem dX8_table_25 : decode cX8_table 25 = .ok (.ireturn, 1) := by decide +kernel
theorem dX8_isPoint_0 : decode cX8_isPoint 0 = .ok (.iload_n 1, 1) := by decide +kernel
theorem dX8_isPoint_1 : decode cX8_isPoint 1 = .ok (.iconst 0, 1) := by decide +kernel
theorem dX8_isPoint_2 : decode cX8_isPoint 2 = .ok (.aload_n 0, 1) := by decide +kernel
theorem dX8_isPoint_3 : decode cX8_isPoint 3 = .ok (.getfield 7, 3) := by decide +kernel
theorem dX8_isPoint_6 : decode cX8_isPoint 6 = .ok (.iconst 1, 1) := by decide +kernel
theorem dX8_isPoint_7 : decode cX8_isPoint 7 = .ok (.isub, 1) := by decide +kernel
theorem dX8_isPoint_8 : decode cX8_isPoint 8 = .ok (.invokestatic 39, 3) := by decide +kernel
theorem dX8_isPoint_11 : decode cX8_isPoint 11 = .ok (.ireturn, 1) := by decide +kernel
theorem dX8_set_0 : decode cX8_set 0 = .ok (.aload_n 0, 1) := by decide +kernel
theorem dX8_set_1 : decode cX8_set 1 = .ok (.iload_n 1, 1) := by decide +kernel
theorem dX8_set_2 : decode cX8_set 2 = .ok (.invokevirtual 43, 3) := by decide +kernel
theorem dX8_set_5 : decode cX8_set 5 = .ok (.ifCond .eq 26, 3) := by decide +kernel
theorem dX8_set_8 : decode cX8_set 8 = .ok (.aload_n 0, 1) := by decide +kernel
theorem dX8_set_9 : decode cX8_set 9 = .ok (.iload_n 2, 1) := by decide +kernel
theorem dX8_set_10 : decode cX8_set 10 = .ok (.invokevirtual 43, 3) := by decide +kernel
theorem dX8_set_13 : decode cX8_set 13 = .ok (.ifCond .eq 18, 3) := by decide +kernel
theorem dX8_set_16 : decode cX8_set 16 = .ok (.iload_n 1, 1) := by decide +kernel
theorem dX8_set_17 : decode cX8_set 17 = .ok (.iload_n 2, 1) := by decide +kernel
theorem dX8_set_18 : decode cX8_set 18 = .ok (.if_icmp .eq 13, 3) := by decide +kernel
theorem dX8_set_21 : decode cX8_set 21 = .ok (.iload_n 3, 1) := by decide +kernel
theorem dX8_set_22 : decode cX8_set 22 = .ok (.iconst 0, 1) := by decide +kernel
theorem dX8_set_23 : decode cX8_set 23 = .ok (.bipush 30, 2) := by decide +kernel
theorem dX8_set_25 : decode cX8_set 25 = .ok (.invokestatic 39, 3) := by decide +kernel
theorem dX8_set_28 : decode cX8_set 28 = .ok (.ifCond .ne 5, 3) := by decide +kernel
theorem dX8_set_31 : decode cX8_set 31 = .ok (.iconst (-1), 1) := by decide +kernel
theorem dX8_set_32 : decode cX8_set 32 = .ok (.ireturn, 1) := by decide +kernel
theorem dX8_set_33 : decode cX8_set 33 = .ok (.aload_n 0, 1) := by decide +kernel
theorem dX8_set_34 : decode cX8_set 34 = .ok (.iload_n 1, 1) := by decide +kernel
theorem dX8_set_35 : decode cX8_set 35 = .ok (.iload_n 2, 1) := by decide +kernel
theorem dX8_set_36 : decode cX8_set 36 = .ok (.invokevirtual 47, 3) := by decide +kernel
theorem dX8_set_39 : decode cX8_set 39 = .ok (.istore 4, 2) := by decide +kernel
theorem dX8_set_41 : decode cX8_set 41 = .ok (.aload_n 0, 1) := by decide +kernel
theorem dX8_set_42 : decode cX8_set 42 = .ok (.getfield 13, 3) := by decide +kernel
theorem dX8_set_45 : decode cX8_set 45 = .ok (.bipush 6, 2) := by decide +kernel
theorem dX8_set_47 : decode cX8_set 47 = .ok (.iload_n 1, 1) := by decide +kernel
theorem dX8_set_48 : decode cX8_set 48 = .ok (.imul, 1) := by decide +kernel
theorem dX8_set_49 : decode cX8_set 49 = .ok (.iload_n 2, 1) := by decide +kernel
theorem dX8_set_50 : decode cX8_set 50 = .ok (.iadd, 1) := by decide +kernel
theorem dX8_set_51 : decode cX8_set 51 = .ok (.iload_n 3, 1) := by decide +kernel
theorem dX8_set_52 : decode cX8_set 52 = .ok (.iastore, 1) := by decide +kernel
theorem dX8_set_53 : decode cX8_set 53 = .ok (.aload_n 0, 1) := by decide +kernel
theorem dX8_set_54 : decode cX8_set 54 = .ok (.getfield 13, 3) := by decide +kernel
theorem dX8_set_57 : decode cX8_set 57 = .ok (.bipush 6, 2) := by decide +kernel
theorem dX8_set_59 : decode cX8_set 59 = .ok (.iload_n 2, 1) := by decide +kernel
end
section
theorem dX8_set_60 : decode cX8_set 60 = .ok (.imul, 1) := by decide +kernel
theorem dX8_set_61 : decode cX8_set 61 = .ok (.iload_n 1, 1) := by decide +kernel
theorem dX8_set_62 : decode cX8_set 62 = .ok (.iadd, 1) := by decide +kernel
theorem dX8_set_63 : decode cX8_set 63 = .ok (.iload_n 3, 1) := by decide +kernel
theorem dX8_set_64 : decode cX8_set 64 = .ok (.iastore, 1) := by decide +kernel
theorem dX8_set_65 : decode cX8_set 65 = .ok (.iload 4, 2) := by decide +kernel
theorem dX8_set_67 : decode cX8_set 67 = .ok (.ireturn, 1) := by decide +kernel
theorem dX8_at_0 : decode cX8_at 0 = .ok (.aload_n 0, 1) := by decide +kernel
theorem dX8_at_1 : decode cX8_at 1 = .ok (.iload_n 1, 1) := by decide +kernel
theorem dX8_at_2 : decode cX8_at 2 = .ok (.invokevirtual 43, 3) := by decide +kernel
theorem dX8_at_5 : decode cX8_at 5 = .ok (.ifCond .eq 20, 3) := by decide +kernel
theorem dX8_at_8 : decode cX8_at 8 = .ok (.aload_n 0, 1) := by decide +kernel
theorem dX8_at_9 : decode cX8_at 9 = .ok (.iload_n 2, 1) := by decide +kernel
theorem dX8_at_10 : decode cX8_at 10 = .ok (.invokevirtual 43, 3) := by decide +kernel
theorem dX8_at_13 : decode cX8_at 13 = .ok (.ifCond .eq 12, 3) := by decide +kernel
theorem dX8_at_16 : decode cX8_at 16 = .ok (.aload_n 0, 1) := by decide +kernel
theorem dX8_at_17 : decode cX8_at 17 = .ok (.iload_n 1, 1) := by decide +kernel
theorem dX8_at_18 : decode cX8_at 18 = .ok (.iload_n 2, 1) := by decide +kernel
theorem dX8_at_19 : decode cX8_at 19 = .ok (.invokevirtual 47, 3) := by decide +kernel
theorem dX8_at_22 : decode cX8_at 22 = .ok (.goto 4, 3) := by decide +kernel
theorem dX8_at_25 : decode cX8_at 25 = .ok (.iconst (-1), 1) := by decide +kernel
theorem dX8_at_26 : decode cX8_at 26 = .ok (.ireturn, 1) := by decide +kernel
theorem dX8_isTwice_0 : decode cX8_isTwice 0 = .ok (.iload_n 0, 1) := by decide +kernel
theorem dX8_isTwice_1 : decode cX8_isTwice 1 = .ok (.iload_n 1, 1) := by decide +kernel
theorem dX8_isTwice_2 : decode cX8_isTwice 2 = .ok (.if_icmp .le 7, 3) := by decide +kernel
theorem dX8_isTwice_5 : decode cX8_isTwice 5 = .ok (.iload_n 0, 1) := by decide +kernel
theorem dX8_isTwice_6 : decode cX8_isTwice 6 = .ok (.goto 4, 3) := by decide +kernel
theorem dX8_isTwice_9 : decode cX8_isTwice 9 = .ok (.iload_n 1, 1) := by decide +kernel
theorem dX8_isTwice_10 : decode cX8_isTwice 10 = .ok (.istore_n 3, 1) := by decide +kernel
theorem dX8_isTwice_11 : decode cX8_isTwice 11 = .ok (.iload_n 2, 1) := by decide +kernel
theorem dX8_isTwice_12 : decode cX8_isTwice 12 = .ok (.iload_n 3, 1) := by decide +kernel
theorem dX8_isTwice_13 : decode cX8_isTwice 13 = .ok (.if_icmp .le 7, 3) := by decide +kernel
theorem dX8_isTwice_16 : decode cX8_isTwice 16 = .ok (.iload_n 2, 1) := by decide +kernel
theorem dX8_isTwice_17 : decode cX8_isTwice 17 = .ok (.goto 4, 3) := by decide +kernel
theorem dX8_isTwice_20 : decode cX8_isTwice 20 = .ok (.iload_n 3, 1) := by decide +kernel
theorem dX8_isTwice_21 : decode cX8_isTwice 21 = .ok (.istore_n 3, 1) := by decide +kernel
theorem dX8_isTwice_22 : decode cX8_isTwice 22 = .ok (.iload_n 0, 1) := by decide +kernel
theorem dX8_isTwice_23 : decode cX8_isTwice 23 = .ok (.iload_n 3, 1) := by decide +kernel
theorem dX8_isTwice_24 : decode cX8_isTwice 24 = .ok (.if_icmp .ne 7, 3) := by decide +kernel
theorem dX8_isTwice_27 : decode cX8_isTwice 27 = .ok (.iconst 1, 1) := by decide +kernel
theorem dX8_isTwice_28 : decode cX8_isTwice 28 = .ok (.goto 4, 3) := by decide +kernel
theorem dX8_isTwice_31 : decode cX8_isTwice 31 = .ok (.iconst 0, 1) := by decide +kernel
theorem dX8_isTwice_32 : decode cX8_isTwice 32 = .ok (.iload_n 1, 1) := by decide +kernel
theorem dX8_isTwice_33 : decode cX8_isTwice 33 = .ok (.iload_n 3, 1) := by decide +kernel
theorem dX8_isTwice_34 : decode cX8_isTwice 34 = .ok (.if_icmp .ne 7, 3) := by decide +kernel
theorem dX8_isTwice_37 : decode cX8_isTwice 37 = .ok (.iconst 1, 1) := by decide +kernel
theorem dX8_isTwice_38 : decode cX8_isTwice 38 = .ok (.goto 4, 3) := by decide +kernel
theorem dX8_isTwice_41 : decode cX8_isTwice 41 = .ok (.iconst 0, 1) := by decide +kernel
theorem dX8_isTwice_42 : decode cX8_isTwice 42 = .ok (.iadd, 1) := by decide +kernel
theorem dX8_isTwice_43 : decode cX8_isTwice 43 = .ok (.iload_n 2, 1) := by decide +kernel
theorem dX8_isTwice_44 : decode cX8_isTwice 44 = .ok (.iload_n 3, 1) := by decide +kernel
theorem dX8_isTwice_45 : decode cX8_isTwice 45 = .ok (.if_icmp .ne 7, 3) := by decide +kernel
theorem dX8_isTwice_48 : decode cX8_isTwice 48 = .ok (.iconst 1, 1) := by decide +kernel
theorem dX8_isTwice_49 : decode cX8_isTwice 49 = .ok (.goto 4, 3) := by decide +kernel
theorem dX8_isTwice_52 : decode cX8_isTwice 52 = .ok (.iconst 0, 1) := by decide +kernel
theorem dX8_isTwice_53 : decode cX8_isTwice 53 = .ok (.iadd, 1) := by decide +kernel
theorem dX8_isTwice_54 : decode cX8_isTwice 54 = .ok (.iconst 1, 1) := by decide +kernel
theorem dX8_isTwice_55 : decode cX8_isTwice 55 = .ok (.if_icmp .le 7, 3) := by decide +kernel
theorem dX8_isTwice_58 : decode cX8_isTwice 58 = .ok (.iconst 1, 1) := by decide +kernel
theorem dX8_isTwice_59 : decode cX8_isTwice 59 = .ok (.goto 4, 3) := by decide +kernel
theorem dX8_isTwice_62 : decode cX8_isTwice 62 = .ok (.iconst 0, 1) := by decide +kernel
theorem dX8_isTwice_63 : decode cX8_isTwice 63 = .ok (.ireturn, 1) := by decide +kernel
theorem dX8_isBroken_0 : decode cX8_isBroken 0 = .ok (.iload_n 2, 1) := by decide +kernel
theorem dX8_isBroken_1 : decode cX8_isBroken 1 = .ok (.bipush 64, 2) := by decide +kernel
theorem dX8_isBroken_3 : decode cX8_isBroken 3 = .ok (.idiv, 1) := by decide +kernel
theorem dX8_isBroken_4 : decode cX8_isBroken 4 = .ok (.bipush 8, 2) := by decide +kernel
theorem dX8_isBroken_6 : decode cX8_isBroken 6 = .ok (.irem, 1) := by decide +kernel
theorem dX8_isBroken_7 : decode cX8_isBroken 7 = .ok (.istore_n 3, 1) := by decide +kernel
theorem dX8_isBroken_8 : decode cX8_isBroken 8 = .ok (.iload_n 2, 1) := by decide +kernel
theorem dX8_isBroken_9 : decode cX8_isBroken 9 = .ok (.bipush 8, 2) := by decide +kernel
theorem dX8_isBroken_11 : decode cX8_isBroken 11 = .ok (.idiv, 1) := by decide +kernel
theorem dX8_isBroken_12 : decode cX8_isBroken 12 = .ok (.bipush 8, 2) := by decide +kernel
theorem dX8_isBroken_14 : decode cX8_isBroken 14 = .ok (.irem, 1) := by decide +kernel
theorem dX8_isBroken_15 : decode cX8_isBroken 15 = .ok (.istore 4, 2) := by decide +kernel
theorem dX8_isBroken_17 : decode cX8_isBroken 17 = .ok (.iload_n 2, 1) := by decide +kernel
theorem dX8_isBroken_18 : decode cX8_isBroken 18 = .ok (.bipush 8, 2) := by decide +kernel
theorem dX8_isBroken_20 : decode cX8_isBroken 20 = .ok (.irem, 1) := by decide +kernel
theorem dX8_isBroken_21 : decode cX8_isBroken 21 = .ok (.istore 5, 2) := by decide +kernel
theorem dX8_isBroken_23 : decode cX8_isBroken 23 = .ok (.iload_n 1, 1) := by decide +kernel
theorem dX8_isBroken_24 : decode cX8_isBroken 24 = .ok (.iconst 3, 1) := by decide +kernel
theorem dX8_isBroken_25 : decode cX8_isBroken 25 = .ok (.if_icmp .ne 9, 3) := by decide +kernel
theorem dX8_isBroken_28 : decode cX8_isBroken 28 = .ok (.aload_n 0, 1) := by decide +kernel
theorem dX8_isBroken_29 : decode cX8_isBroken 29 = .ok (.iload_n 2, 1) := by decide +kernel
theorem dX8_isBroken_30 : decode cX8_isBroken 30 = .ok (.invokevirtual 51, 3) := by decide +kernel
theorem dX8_isBroken_33 : decode cX8_isBroken 33 = .ok (.ireturn, 1) := by decide +kernel
theorem dX8_isBroken_34 : decode cX8_isBroken 34 = .ok (.iload_n 1, 1) := by decide +kernel
theorem dX8_isBroken_35 : decode cX8_isBroken 35 = .ok (.iconst 1, 1) := by decide +kernel
theorem dX8_isBroken_36 : decode cX8_isBroken 36 = .ok (.if_icmp .ne 98, 3) := by decide +kernel
theorem dX8_isBroken_39 : decode cX8_isBroken 39 = .ok (.iload_n 2, 1) := by decide +kernel
theorem dX8_isBroken_40 : decode cX8_isBroken 40 = .ok (.sipush 512, 3) := by decide +kernel
theorem dX8_isBroken_43 : decode cX8_isBroken 43 = .ok (.idiv, 1) := by decide +kernel
theorem dX8_isBroken_44 : decode cX8_isBroken 44 = .ok (.istore 6, 2) := by decide +kernel
theorem dX8_isBroken_46 : decode cX8_isBroken 46 = .ok (.iload 6, 2) := by decide +kernel
theorem dX8_isBroken_48 : decode cX8_isBroken 48 = .ok (.iload_n 3, 1) := by decide +kernel
theorem dX8_isBroken_49 : decode cX8_isBroken 49 = .ok (.if_icmp .ge 83, 3) := by decide +kernel
theorem dX8_isBroken_52 : decode cX8_isBroken 52 = .ok (.iload_n 3, 1) := by decide +kernel
theorem dX8_isBroken_53 : decode cX8_isBroken 53 = .ok (.iload 4, 2) := by decide +kernel
theorem dX8_isBroken_55 : decode cX8_isBroken 55 = .ok (.if_icmp .ge 77, 3) := by decide +kernel
theorem dX8_isBroken_58 : decode cX8_isBroken 58 = .ok (.iload 4, 2) := by decide +kernel
theorem dX8_isBroken_60 : decode cX8_isBroken 60 = .ok (.iload 5, 2) := by decide +kernel
theorem dX8_isBroken_62 : decode cX8_isBroken 62 = .ok (.if_icmp .ge 70, 3) := by decide +kernel
theorem dX8_isBroken_65 : decode cX8_isBroken 65 = .ok (.iload 5, 2) := by decide +kernel
theorem dX8_isBroken_67 : decode cX8_isBroken 67 = .ok (.aload_n 0, 1) := by decide +kernel
theorem dX8_isBroken_68 : decode cX8_isBroken 68 = .ok (.getfield 7, 3) := by decide +kernel
theorem dX8_isBroken_71 : decode cX8_isBroken 71 = .ok (.if_icmp .ge 61, 3) := by decide +kernel
theorem dX8_isBroken_74 : decode cX8_isBroken 74 = .ok (.aload_n 0, 1) := by decide +kernel
theorem dX8_isBroken_75 : decode cX8_isBroken 75 = .ok (.iload 6, 2) := by decide +kernel
theorem dX8_isBroken_77 : decode cX8_isBroken 77 = .ok (.iload_n 3, 1) := by decide +kernel
theorem dX8_isBroken_78 : decode cX8_isBroken 78 = .ok (.invokevirtual 47, 3) := by decide +kernel
theorem dX8_isBroken_81 : decode cX8_isBroken 81 = .ok (.aload_n 0, 1) := by decide +kernel
theorem dX8_isBroken_82 : decode cX8_isBroken 82 = .ok (.iload 4, 2) := by decide +kernel
theorem dX8_isBroken_84 : decode cX8_isBroken 84 = .ok (.iload 5, 2) := by decide +kernel
theorem dX8_isBroken_86 : decode cX8_isBroken 86 = .ok (.invokevirtual 47, 3) := by decide +kernel
theorem dX8_isBroken_89 : decode cX8_isBroken 89 = .ok (.iadd, 1) := by decide +kernel
theorem dX8_isBroken_90 : decode cX8_isBroken 90 = .ok (.aload_n 0, 1) := by decide +kernel
theorem dX8_isBroken_91 : decode cX8_isBroken 91 = .ok (.iload 6, 2) := by decide +kernel
theorem dX8_isBroken_93 : decode cX8_isBroken 93 = .ok (.iload 4, 2) := by decide +kernel
theorem dX8_isBroken_95 : decode cX8_isBroken 95 = .ok (.invokevirtual 47, 3) := by decide +kernel
theorem dX8_isBroken_98 : decode cX8_isBroken 98 = .ok (.aload_n 0, 1) := by decide +kernel
theorem dX8_isBroken_99 : decode cX8_isBroken 99 = .ok (.iload_n 3, 1) := by decide +kernel
theorem dX8_isBroken_100 : decode cX8_isBroken 100 = .ok (.iload 5, 2) := by decide +kernel
theorem dX8_isBroken_102 : decode cX8_isBroken 102 = .ok (.invokevirtual 47, 3) := by decide +kernel
theorem dX8_isBroken_105 : decode cX8_isBroken 105 = .ok (.iadd, 1) := by decide +kernel
theorem dX8_isBroken_106 : decode cX8_isBroken 106 = .ok (.aload_n 0, 1) := by decide +kernel
theorem dX8_isBroken_107 : decode cX8_isBroken 107 = .ok (.iload 6, 2) := by decide +kernel
theorem dX8_isBroken_109 : decode cX8_isBroken 109 = .ok (.iload 5, 2) := by decide +kernel
theorem dX8_isBroken_111 : decode cX8_isBroken 111 = .ok (.invokevirtual 47, 3) := by decide +kernel
theorem dX8_isBroken_114 : decode cX8_isBroken 114 = .ok (.aload_n 0, 1) := by decide +kernel
theorem dX8_isBroken_115 : decode cX8_isBroken 115 = .ok (.iload_n 3, 1) := by decide +kernel
theorem dX8_isBroken_116 : decode cX8_isBroken 116 = .ok (.iload 4, 2) := by decide +kernel
theorem dX8_isBroken_118 : decode cX8_isBroken 118 = .ok (.invokevirtual 47, 3) := by decide +kernel
theorem dX8_isBroken_121 : decode cX8_isBroken 121 = .ok (.iadd, 1) := by decide +kernel
theorem dX8_isBroken_122 : decode cX8_isBroken 122 = .ok (.invokestatic 54, 3) := by decide +kernel
theorem dX8_isBroken_125 : decode cX8_isBroken 125 = .ok (.ifCond .ne 7, 3) := by decide +kernel
theorem dX8_isBroken_128 : decode cX8_isBroken 128 = .ok (.iconst 1, 1) := by decide +kernel
theorem dX8_isBroken_129 : decode cX8_isBroken 129 = .ok (.goto 4, 3) := by decide +kernel
theorem dX8_isBroken_132 : decode cX8_isBroken 132 = .ok (.iconst 0, 1) := by decide +kernel
theorem dX8_isBroken_133 : decode cX8_isBroken 133 = .ok (.ireturn, 1) := by decide +kernel
theorem dX8_isBroken_134 : decode cX8_isBroken 134 = .ok (.iload_n 3, 1) := by decide +kernel
theorem dX8_isBroken_135 : decode cX8_isBroken 135 = .ok (.aload_n 0, 1) := by decide +kernel
theorem dX8_isBroken_136 : decode cX8_isBroken 136 = .ok (.getfield 7, 3) := by decide +kernel
theorem dX8_isBroken_139 : decode cX8_isBroken 139 = .ok (.if_icmp .ge 21, 3) := by decide +kernel
theorem dX8_isBroken_142 : decode cX8_isBroken 142 = .ok (.iload 4, 2) := by decide +kernel
theorem dX8_isBroken_144 : decode cX8_isBroken 144 = .ok (.aload_n 0, 1) := by decide +kernel
theorem dX8_isBroken_145 : decode cX8_isBroken 145 = .ok (.getfield 7, 3) := by decide +kernel
theorem dX8_isBroken_148 : decode cX8_isBroken 148 = .ok (.if_icmp .ge 12, 3) := by decide +kernel
theorem dX8_isBroken_151 : decode cX8_isBroken 151 = .ok (.iload 5, 2) := by decide +kernel
theorem dX8_isBroken_153 : decode cX8_isBroken 153 = .ok (.aload_n 0, 1) := by decide +kernel
theorem dX8_isBroken_154 : decode cX8_isBroken 154 = .ok (.getfield 7, 3) := by decide +kernel
theorem dX8_isBroken_157 : decode cX8_isBroken 157 = .ok (.if_icmp .lt 5, 3) := by decide +kernel
theorem dX8_isBroken_160 : decode cX8_isBroken 160 = .ok (.iconst 0, 1) := by decide +kernel
theorem dX8_isBroken_161 : decode cX8_isBroken 161 = .ok (.ireturn, 1) := by decide +kernel
theorem dX8_isBroken_162 : decode cX8_isBroken 162 = .ok (.iload_n 1, 1) := by decide +kernel
theorem dX8_isBroken_163 : decode cX8_isBroken 163 = .ok (.ifCond .ne 54, 3) := by decide +kernel
theorem dX8_isBroken_166 : decode cX8_isBroken 166 = .ok (.iload_n 3, 1) := by decide +kernel
theorem dX8_isBroken_167 : decode cX8_isBroken 167 = .ok (.iload 5, 2) := by decide +kernel
theorem dX8_isBroken_169 : decode cX8_isBroken 169 = .ok (.if_icmp .ge 46, 3) := by decide +kernel
theorem dX8_isBroken_172 : decode cX8_isBroken 172 = .ok (.iload 4, 2) := by decide +kernel
theorem dX8_isBroken_174 : decode cX8_isBroken 174 = .ok (.iload_n 3, 1) := by decide +kernel
theorem dX8_isBroken_175 : decode cX8_isBroken 175 = .ok (.if_icmp .eq 40, 3) := by decide +kernel
theorem dX8_isBroken_178 : decode cX8_isBroken 178 = .ok (.iload 4, 2) := by decide +kernel
theorem dX8_isBroken_180 : decode cX8_isBroken 180 = .ok (.iload 5, 2) := by decide +kernel
theorem dX8_isBroken_182 : decode cX8_isBroken 182 = .ok (.if_icmp .eq 33, 3) := by decide +kernel
theorem dX8_isBroken_185 : decode cX8_isBroken 185 = .ok (.aload_n 0, 1) := by decide +kernel
theorem dX8_isBroken_186 : decode cX8_isBroken 186 = .ok (.iload_n 3, 1) := by decide +kernel
theorem dX8_isBroken_187 : decode cX8_isBroken 187 = .ok (.iload 5, 2) := by decide +kernel
theorem dX8_isBroken_189 : decode cX8_isBroken 189 = .ok (.invokevirtual 47, 3) := by decide +kernel
theorem dX8_isBroken_192 : decode cX8_isBroken 192 = .ok (.aload_n 0, 1) := by decide +kernel
theorem dX8_isBroken_193 : decode cX8_isBroken 193 = .ok (.iload_n 3, 1) := by decide +kernel
theorem dX8_isBroken_194 : decode cX8_isBroken 194 = .ok (.iload 4, 2) := by decide +kernel
theorem dX8_isBroken_196 : decode cX8_isBroken 196 = .ok (.invokevirtual 47, 3) := by decide +kernel
theorem dX8_isBroken_199 : decode cX8_isBroken 199 = .ok (.aload_n 0, 1) := by decide +kernel
theorem dX8_isBroken_200 : decode cX8_isBroken 200 = .ok (.iload 4, 2) := by decide +kernel
theorem dX8_isBroken_202 : decode cX8_isBroken 202 = .ok (.iload 5, 2) := by decide +kernel
theorem dX8_isBroken_204 : decode cX8_isBroken 204 = .ok (.invokevirtual 47, 3) := by decide +kernel
theorem dX8_isBroken_207 : decode cX8_isBroken 207 = .ok (.iadd, 1) := by decide +kernel
theorem dX8_isBroken_208 : decode cX8_isBroken 208 = .ok (.if_icmp .le 7, 3) := by decide +kernel
theorem dX8_isBroken_211 : decode cX8_isBroken 211 = .ok (.iconst 1, 1) := by decide +kernel
theorem dX8_isBroken_212 : decode cX8_isBroken 212 = .ok (.goto 4, 3) := by decide +kernel
theorem dX8_isBroken_215 : decode cX8_isBroken 215 = .ok (.iconst 0, 1) := by decide +kernel
theorem dX8_isBroken_216 : decode cX8_isBroken 216 = .ok (.ireturn, 1) := by decide +kernel
theorem dX8_isBroken_217 : decode cX8_isBroken 217 = .ok (.iload_n 3, 1) := by decide +kernel
theorem dX8_isBroken_218 : decode cX8_isBroken 218 = .ok (.iload 4, 2) := by decide +kernel
theorem dX8_isBroken_220 : decode cX8_isBroken 220 = .ok (.if_icmp .ge 42, 3) := by decide +kernel
theorem dX8_isBroken_223 : decode cX8_isBroken 223 = .ok (.iload 4, 2) := by decide +kernel
theorem dX8_isBroken_225 : decode cX8_isBroken 225 = .ok (.iload 5, 2) := by decide +kernel
theorem dX8_isBroken_227 : decode cX8_isBroken 227 = .ok (.if_icmp .ge 35, 3) := by decide +kernel
theorem dX8_isBroken_230 : decode cX8_isBroken 230 = .ok (.aload_n 0, 1) := by decide +kernel
theorem dX8_isBroken_231 : decode cX8_isBroken 231 = .ok (.iload_n 3, 1) := by decide +kernel
theorem dX8_isBroken_232 : decode cX8_isBroken 232 = .ok (.iload 4, 2) := by decide +kernel
theorem dX8_isBroken_234 : decode cX8_isBroken 234 = .ok (.invokevirtual 47, 3) := by decide +kernel
theorem dX8_isBroken_237 : decode cX8_isBroken 237 = .ok (.aload_n 0, 1) := by decide +kernel
theorem dX8_isBroken_238 : decode cX8_isBroken 238 = .ok (.iload_n 3, 1) := by decide +kernel
theorem dX8_isBroken_239 : decode cX8_isBroken 239 = .ok (.iload 5, 2) := by decide +kernel
theorem dX8_isBroken_241 : decode cX8_isBroken 241 = .ok (.invokevirtual 47, 3) := by decide +kernel
theorem dX8_isBroken_244 : decode cX8_isBroken 244 = .ok (.aload_n 0, 1) := by decide +kernel
theorem dX8_isBroken_245 : decode cX8_isBroken 245 = .ok (.iload 4, 2) := by decide +kernel
theorem dX8_isBroken_247 : decode cX8_isBroken 247 = .ok (.iload 5, 2) := by decide +kernel
theorem dX8_isBroken_249 : decode cX8_isBroken 249 = .ok (.invokevirtual 47, 3) := by decide +kernel
theorem dX8_isBroken_252 : decode cX8_isBroken 252 = .ok (.invokestatic 54, 3) := by decide +kernel
theorem dX8_isBroken_255 : decode cX8_isBroken 255 = .ok (.ifCond .ne 7, 3) := by decide +kernel
theorem dX8_isBroken_258 : decode cX8_isBroken 258 = .ok (.iconst 1, 1) := by decide +kernel
theorem dX8_isBroken_259 : decode cX8_isBroken 259 = .ok (.goto 4, 3) := by decide +kernel
theorem dX8_isBroken_262 : decode cX8_isBroken 262 = .ok (.iconst 0, 1) := by decide +kernel
theorem dX8_isBroken_263 : decode cX8_isBroken 263 = .ok (.ireturn, 1) := by decide +kernel
theorem dX8_isAbove_0 : decode cX8_isAbove 0 = .ok (.iconst 0, 1) := by decide +kernel
theorem dX8_isAbove_1 : decode cX8_isAbove 1 = .ok (.istore_n 2, 1) := by decide +kernel
theorem dX8_isAbove_2 : decode cX8_isAbove 2 = .ok (.iconst 0, 1) := by decide +kernel
theorem dX8_isAbove_3 : decode cX8_isAbove 3 = .ok (.istore_n 3, 1) := by decide +kernel
theorem dX8_isAbove_4 : decode cX8_isAbove 4 = .ok (.iload_n 1, 1) := by decide +kernel
theorem dX8_isAbove_5 : decode cX8_isAbove 5 = .ok (.istore 4, 2) := by decide +kernel
theorem dX8_isAbove_7 : decode cX8_isAbove 7 = .ok (.aload_n 0, 1) := by decide +kernel
theorem dX8_isAbove_8 : decode cX8_isAbove 8 = .ok (.getfield 7, 3) := by decide +kernel
theorem dX8_isAbove_11 : decode cX8_isAbove 11 = .ok (.iconst 1, 1) := by decide +kernel
theorem dX8_isAbove_12 : decode cX8_isAbove 12 = .ok (.isub, 1) := by decide +kernel
theorem dX8_isAbove_13 : decode cX8_isAbove 13 = .ok (.istore 5, 2) := by decide +kernel
theorem dX8_isAbove_15 : decode cX8_isAbove 15 = .ok (.iload 5, 2) := by decide +kernel
theorem dX8_isAbove_17 : decode cX8_isAbove 17 = .ok (.ifCond .lt 76, 3) := by decide +kernel
theorem dX8_isAbove_20 : decode cX8_isAbove 20 = .ok (.iload 4, 2) := by decide +kernel
theorem dX8_isAbove_22 : decode cX8_isAbove 22 = .ok (.iconst 5, 1) := by decide +kernel
theorem dX8_isAbove_23 : decode cX8_isAbove 23 = .ok (.irem, 1) := by decide +kernel
theorem dX8_isAbove_24 : decode cX8_isAbove 24 = .ok (.iconst 2, 1) := by decide +kernel
theorem dX8_isAbove_25 : decode cX8_isAbove 25 = .ok (.isub, 1) := by decide +kernel
theorem dX8_isAbove_26 : decode cX8_isAbove 26 = .ok (.istore 6, 2) := by decide +kernel
theorem dX8_isAbove_28 : decode cX8_isAbove 28 = .ok (.iload 4, 2) := by decide +kernel
theorem dX8_isAbove_30 : decode cX8_isAbove 30 = .ok (.iconst 5, 1) := by decide +kernel
theorem dX8_isAbove_31 : decode cX8_isAbove 31 = .ok (.idiv, 1) := by decide +kernel
theorem dX8_isAbove_32 : decode cX8_isAbove 32 = .ok (.istore 4, 2) := by decide +kernel
theorem dX8_isAbove_34 : decode cX8_isAbove 34 = .ok (.iload_n 2, 1) := by decide +kernel
theorem dX8_isAbove_35 : decode cX8_isAbove 35 = .ok (.iload 6, 2) := by decide +kernel
theorem dX8_isAbove_37 : decode cX8_isAbove 37 = .ok (.iadd, 1) := by decide +kernel
theorem dX8_isAbove_38 : decode cX8_isAbove 38 = .ok (.istore_n 2, 1) := by decide +kernel
theorem dX8_isAbove_39 : decode cX8_isAbove 39 = .ok (.iload 4, 2) := by decide +kernel
theorem dX8_isAbove_41 : decode cX8_isAbove 41 = .ok (.istore 7, 2) := by decide +kernel
theorem dX8_isAbove_43 : decode cX8_isAbove 43 = .ok (.iload 5, 2) := by decide +kernel
theorem dX8_isAbove_45 : decode cX8_isAbove 45 = .ok (.iconst 1, 1) := by decide +kernel
theorem dX8_isAbove_46 : decode cX8_isAbove 46 = .ok (.isub, 1) := by decide +kernel
theorem dX8_isAbove_47 : decode cX8_isAbove 47 = .ok (.istore 8, 2) := by decide +kernel
theorem dX8_isAbove_49 : decode cX8_isAbove 49 = .ok (.iload 8, 2) := by decide +kernel
theorem dX8_isAbove_51 : decode cX8_isAbove 51 = .ok (.ifCond .lt 36, 3) := by decide +kernel
theorem dX8_isAbove_54 : decode cX8_isAbove 54 = .ok (.iload_n 3, 1) := by decide +kernel
theorem dX8_isAbove_55 : decode cX8_isAbove 55 = .ok (.iload 6, 2) := by decide +kernel
theorem dX8_isAbove_57 : decode cX8_isAbove 57 = .ok (.iload 7, 2) := by decide +kernel
theorem dX8_isAbove_59 : decode cX8_isAbove 59 = .ok (.iconst 5, 1) := by decide +kernel
theorem dX8_isAbove_60 : decode cX8_isAbove 60 = .ok (.irem, 1) := by decide +kernel
theorem dX8_isAbove_61 : decode cX8_isAbove 61 = .ok (.iconst 2, 1) := by decide +kernel
theorem dX8_isAbove_62 : decode cX8_isAbove 62 = .ok (.isub, 1) := by decide +kernel
theorem dX8_isAbove_63 : decode cX8_isAbove 63 = .ok (.imul, 1) := by decide +kernel
theorem dX8_isAbove_64 : decode cX8_isAbove 64 = .ok (.aload_n 0, 1) := by decide +kernel
theorem dX8_isAbove_65 : decode cX8_isAbove 65 = .ok (.iload 8, 2) := by decide +kernel
theorem dX8_isAbove_67 : decode cX8_isAbove 67 = .ok (.iload 5, 2) := by decide +kernel
theorem dX8_isAbove_69 : decode cX8_isAbove 69 = .ok (.invokevirtual 47, 3) := by decide +kernel
theorem dX8_isAbove_72 : decode cX8_isAbove 72 = .ok (.imul, 1) := by decide +kernel
theorem dX8_isAbove_73 : decode cX8_isAbove 73 = .ok (.iadd, 1) := by decide +kernel
theorem dX8_isAbove_74 : decode cX8_isAbove 74 = .ok (.istore_n 3, 1) := by decide +kernel
theorem dX8_isAbove_75 : decode cX8_isAbove 75 = .ok (.iload 7, 2) := by decide +kernel
theorem dX8_isAbove_77 : decode cX8_isAbove 77 = .ok (.iconst 5, 1) := by decide +kernel
theorem dX8_isAbove_78 : decode cX8_isAbove 78 = .ok (.idiv, 1) := by decide +kernel
theorem dX8_isAbove_79 : decode cX8_isAbove 79 = .ok (.istore 7, 2) := by decide +kernel
theorem dX8_isAbove_81 : decode cX8_isAbove 81 = .ok (.iinc 8 (-1), 3) := by decide +kernel
theorem dX8_isAbove_84 : decode cX8_isAbove 84 = .ok (.goto (-35), 3) := by decide +kernel
theorem dX8_isAbove_87 : decode cX8_isAbove 87 = .ok (.iinc 5 (-1), 3) := by decide +kernel
theorem dX8_isAbove_90 : decode cX8_isAbove 90 = .ok (.goto (-75), 3) := by decide +kernel
theorem dX8_isAbove_93 : decode cX8_isAbove 93 = .ok (.iload_n 2, 1) := by decide +kernel
theorem dX8_isAbove_94 : decode cX8_isAbove 94 = .ok (.iconst 1, 1) := by decide +kernel
theorem dX8_isAbove_95 : decode cX8_isAbove 95 = .ok (.if_icmp .ne 11, 3) := by decide +kernel
theorem dX8_isAbove_98 : decode cX8_isAbove 98 = .ok (.iload_n 3, 1) := by decide +kernel
theorem dX8_isAbove_99 : decode cX8_isAbove 99 = .ok (.ifCond .le 7, 3) := by decide +kernel
theorem dX8_isAbove_102 : decode cX8_isAbove 102 = .ok (.iconst 1, 1) := by decide +kernel
theorem dX8_isAbove_103 : decode cX8_isAbove 103 = .ok (.goto 4, 3) := by decide +kernel
theorem dX8_isAbove_106 : decode cX8_isAbove 106 = .ok (.iconst 0, 1) := by decide +kernel
theorem dX8_isAbove_107 : decode cX8_isAbove 107 = .ok (.ireturn, 1) := by decide +kernel
theorem dX8_cases_0 : decode cX8_cases 0 = .ok (.iconst 1, 1) := by decide +kernel
theorem dX8_cases_1 : decode cX8_cases 1 = .ok (.istore_n 2, 1) := by decide +kernel
theorem dX8_cases_2 : decode cX8_cases 2 = .ok (.iconst 0, 1) := by decide +kernel
theorem dX8_cases_3 : decode cX8_cases 3 = .ok (.istore_n 3, 1) := by decide +kernel
theorem dX8_cases_4 : decode cX8_cases 4 = .ok (.iload_n 3, 1) := by decide +kernel
theorem dX8_cases_5 : decode cX8_cases 5 = .ok (.aload_n 0, 1) := by decide +kernel
theorem dX8_cases_6 : decode cX8_cases 6 = .ok (.getfield 7, 3) := by decide +kernel
theorem dX8_cases_9 : decode cX8_cases 9 = .ok (.if_icmp .ge 13, 3) := by decide +kernel
theorem dX8_cases_12 : decode cX8_cases 12 = .ok (.iload_n 2, 1) := by decide +kernel
theorem dX8_cases_13 : decode cX8_cases 13 = .ok (.iconst 5, 1) := by decide +kernel
theorem dX8_cases_14 : decode cX8_cases 14 = .ok (.imul, 1) := by decide +kernel
theorem dX8_cases_15 : decode cX8_cases 15 = .ok (.istore_n 2, 1) := by decide +kernel
theorem dX8_cases_16 : decode cX8_cases 16 = .ok (.iinc 3 1, 3) := by decide +kernel
theorem dX8_cases_19 : decode cX8_cases 19 = .ok (.goto (-15), 3) := by decide +kernel
theorem dX8_cases_22 : decode cX8_cases 22 = .ok (.iload_n 1, 1) := by decide +kernel
theorem dX8_cases_23 : decode cX8_cases 23 = .ok (.iconst 3, 1) := by decide +kernel
theorem dX8_cases_24 : decode cX8_cases 24 = .ok (.if_icmp .ne 7, 3) := by decide +kernel
theorem dX8_cases_27 : decode cX8_cases 27 = .ok (.iload_n 2, 1) := by decide +kernel
theorem dX8_cases_28 : decode cX8_cases 28 = .ok (.goto 17, 3) := by decide +kernel
theorem dX8_cases_31 : decode cX8_cases 31 = .ok (.iload_n 1, 1) := by decide +kernel
theorem dX8_cases_32 : decode cX8_cases 32 = .ok (.iconst 1, 1) := by decide +kernel
theorem dX8_cases_33 : decode cX8_cases 33 = .ok (.if_icmp .ne 9, 3) := by decide +kernel
theorem dX8_cases_36 : decode cX8_cases 36 = .ok (.sipush 4096, 3) := by decide +kernel
theorem dX8_cases_39 : decode cX8_cases 39 = .ok (.goto 6, 3) := by decide +kernel
theorem dX8_cases_42 : decode cX8_cases 42 = .ok (.sipush 512, 3) := by decide +kernel
theorem dX8_cases_45 : decode cX8_cases 45 = .ok (.ireturn, 1) := by decide +kernel
theorem dX8_law_0 : decode cX8_law 0 = .ok (.iload_n 1, 1) := by decide +kernel
theorem dX8_law_1 : decode cX8_law 1 = .ok (.iconst 0, 1) := by decide +kernel
theorem dX8_law_2 : decode cX8_law 2 = .ok (.iconst 3, 1) := by decide +kernel
theorem dX8_law_3 : decode cX8_law 3 = .ok (.invokestatic 39, 3) := by decide +kernel
theorem dX8_law_6 : decode cX8_law 6 = .ok (.ifCond .ne 5, 3) := by decide +kernel
theorem dX8_law_9 : decode cX8_law 9 = .ok (.iconst (-1), 1) := by decide +kernel
theorem dX8_law_10 : decode cX8_law 10 = .ok (.ireturn, 1) := by decide +kernel
theorem dX8_law_11 : decode cX8_law 11 = .ok (.iconst 0, 1) := by decide +kernel
theorem dX8_law_12 : decode cX8_law 12 = .ok (.istore_n 2, 1) := by decide +kernel
theorem dX8_law_13 : decode cX8_law 13 = .ok (.iload_n 2, 1) := by decide +kernel
theorem dX8_law_14 : decode cX8_law 14 = .ok (.aload_n 0, 1) := by decide +kernel
theorem dX8_law_15 : decode cX8_law 15 = .ok (.iload_n 1, 1) := by decide +kernel
theorem dX8_law_16 : decode cX8_law 16 = .ok (.invokevirtual 57, 3) := by decide +kernel
theorem dX8_law_19 : decode cX8_law 19 = .ok (.if_icmp .ge 20, 3) := by decide +kernel
theorem dX8_law_22 : decode cX8_law 22 = .ok (.aload_n 0, 1) := by decide +kernel
theorem dX8_law_23 : decode cX8_law 23 = .ok (.iload_n 1, 1) := by decide +kernel
theorem dX8_law_24 : decode cX8_law 24 = .ok (.iload_n 2, 1) := by decide +kernel
theorem dX8_law_25 : decode cX8_law 25 = .ok (.invokevirtual 61, 3) := by decide +kernel
theorem dX8_law_28 : decode cX8_law 28 = .ok (.ifCond .eq 5, 3) := by decide +kernel
theorem dX8_law_31 : decode cX8_law 31 = .ok (.iload_n 2, 1) := by decide +kernel
theorem dX8_law_32 : decode cX8_law 32 = .ok (.ireturn, 1) := by decide +kernel
theorem dX8_law_33 : decode cX8_law 33 = .ok (.iinc 2 1, 3) := by decide +kernel
theorem dX8_law_36 : decode cX8_law 36 = .ok (.goto (-23), 3) := by decide +kernel
theorem dX8_law_39 : decode cX8_law 39 = .ok (.bipush (-4), 2) := by decide +kernel
theorem dX8_law_41 : decode cX8_law 41 = .ok (.ireturn, 1) := by decide +kernel
theorem dX8_breaks_0 : decode cX8_breaks 0 = .ok (.iload_n 1, 1) := by decide +kernel
theorem dX8_breaks_1 : decode cX8_breaks 1 = .ok (.iconst 0, 1) := by decide +kernel
theorem dX8_breaks_2 : decode cX8_breaks 2 = .ok (.iconst 3, 1) := by decide +kernel
theorem dX8_breaks_3 : decode cX8_breaks 3 = .ok (.invokestatic 39, 3) := by decide +kernel
theorem dX8_breaks_6 : decode cX8_breaks 6 = .ok (.ifCond .ne 5, 3) := by decide +kernel
theorem dX8_breaks_9 : decode cX8_breaks 9 = .ok (.iconst (-1), 1) := by decide +kernel
theorem dX8_breaks_10 : decode cX8_breaks 10 = .ok (.ireturn, 1) := by decide +kernel
theorem dX8_breaks_11 : decode cX8_breaks 11 = .ok (.iconst 0, 1) := by decide +kernel
theorem dX8_breaks_12 : decode cX8_breaks 12 = .ok (.istore_n 2, 1) := by decide +kernel
theorem dX8_breaks_13 : decode cX8_breaks 13 = .ok (.iconst 0, 1) := by decide +kernel
theorem dX8_breaks_14 : decode cX8_breaks 14 = .ok (.istore_n 3, 1) := by decide +kernel
theorem dX8_breaks_15 : decode cX8_breaks 15 = .ok (.iload_n 3, 1) := by decide +kernel
theorem dX8_breaks_16 : decode cX8_breaks 16 = .ok (.aload_n 0, 1) := by decide +kernel
theorem dX8_breaks_17 : decode cX8_breaks 17 = .ok (.iload_n 1, 1) := by decide +kernel
theorem dX8_breaks_18 : decode cX8_breaks 18 = .ok (.invokevirtual 57, 3) := by decide +kernel
theorem dX8_breaks_21 : decode cX8_breaks 21 = .ok (.if_icmp .ge 26, 3) := by decide +kernel
theorem dX8_breaks_24 : decode cX8_breaks 24 = .ok (.iload_n 2, 1) := by decide +kernel
theorem dX8_breaks_25 : decode cX8_breaks 25 = .ok (.aload_n 0, 1) := by decide +kernel
theorem dX8_breaks_26 : decode cX8_breaks 26 = .ok (.iload_n 1, 1) := by decide +kernel
theorem dX8_breaks_27 : decode cX8_breaks 27 = .ok (.iload_n 3, 1) := by decide +kernel
theorem dX8_breaks_28 : decode cX8_breaks 28 = .ok (.invokevirtual 61, 3) := by decide +kernel
theorem dX8_breaks_31 : decode cX8_breaks 31 = .ok (.ifCond .eq 7, 3) := by decide +kernel
theorem dX8_breaks_34 : decode cX8_breaks 34 = .ok (.iconst 1, 1) := by decide +kernel
theorem dX8_breaks_35 : decode cX8_breaks 35 = .ok (.goto 4, 3) := by decide +kernel
theorem dX8_breaks_38 : decode cX8_breaks 38 = .ok (.iconst 0, 1) := by decide +kernel
theorem dX8_breaks_39 : decode cX8_breaks 39 = .ok (.iadd, 1) := by decide +kernel
theorem dX8_breaks_40 : decode cX8_breaks 40 = .ok (.istore_n 2, 1) := by decide +kernel
theorem dX8_breaks_41 : decode cX8_breaks 41 = .ok (.iinc 3 1, 3) := by decide +kernel
theorem dX8_breaks_44 : decode cX8_breaks 44 = .ok (.goto (-29), 3) := by decide +kernel
theorem dX8_breaks_47 : decode cX8_breaks 47 = .ok (.iload_n 2, 1) := by decide +kernel
theorem dX8_breaks_48 : decode cX8_breaks 48 = .ok (.ireturn, 1) := by decide +kernel
theorem dX8_worth_0 : decode cX8_worth 0 = .ok (.iconst 0, 1) := by decide +kernel
theorem dX8_worth_1 : decode cX8_worth 1 = .ok (.istore_n 2, 1) := by decide +kernel
theorem dX8_worth_2 : decode cX8_worth 2 = .ok (.iconst 1, 1) := by decide +kernel
theorem dX8_worth_3 : decode cX8_worth 3 = .ok (.istore_n 3, 1) := by decide +kernel
theorem dX8_worth_4 : decode cX8_worth 4 = .ok (.iload_n 3, 1) := by decide +kernel
theorem dX8_worth_5 : decode cX8_worth 5 = .ok (.aload_n 0, 1) := by decide +kernel
theorem dX8_worth_6 : decode cX8_worth 6 = .ok (.getfield 7, 3) := by decide +kernel
theorem dX8_worth_9 : decode cX8_worth 9 = .ok (.if_icmp .ge 30, 3) := by decide +kernel
theorem dX8_worth_12 : decode cX8_worth 12 = .ok (.iload_n 1, 1) := by decide +kernel
theorem dX8_worth_13 : decode cX8_worth 13 = .ok (.iload_n 3, 1) := by decide +kernel
theorem dX8_worth_14 : decode cX8_worth 14 = .ok (.iconst 1, 1) := by decide +kernel
theorem dX8_worth_15 : decode cX8_worth 15 = .ok (.isub, 1) := by decide +kernel
theorem dX8_worth_16 : decode cX8_worth 16 = .ok (.ishr, 1) := by decide +kernel
theorem dX8_worth_17 : decode cX8_worth 17 = .ok (.iconst 1, 1) := by decide +kernel
theorem dX8_worth_18 : decode cX8_worth 18 = .ok (.iand, 1) := by decide +kernel
theorem dX8_worth_19 : decode cX8_worth 19 = .ok (.iconst 1, 1) := by decide +kernel
theorem dX8_worth_20 : decode cX8_worth 20 = .ok (.if_icmp .ne 13, 3) := by decide +kernel
theorem dX8_worth_23 : decode cX8_worth 23 = .ok (.aload_n 0, 1) := by decide +kernel
theorem dX8_worth_24 : decode cX8_worth 24 = .ok (.getfield 26, 3) := by decide +kernel
theorem dX8_worth_27 : decode cX8_worth 27 = .ok (.iload_n 2, 1) := by decide +kernel
theorem dX8_worth_28 : decode cX8_worth 28 = .ok (.iload_n 3, 1) := by decide +kernel
theorem dX8_worth_29 : decode cX8_worth 29 = .ok (.iastore, 1) := by decide +kernel
theorem dX8_worth_30 : decode cX8_worth 30 = .ok (.iinc 2 1, 3) := by decide +kernel
theorem dX8_worth_33 : decode cX8_worth 33 = .ok (.iinc 3 1, 3) := by decide +kernel
theorem dX8_worth_36 : decode cX8_worth 36 = .ok (.goto (-32), 3) := by decide +kernel
theorem dX8_worth_39 : decode cX8_worth 39 = .ok (.aload_n 0, 1) := by decide +kernel
theorem dX8_worth_40 : decode cX8_worth 40 = .ok (.getfield 29, 3) := by decide +kernel
theorem dX8_worth_43 : decode cX8_worth 43 = .ok (.iconst 0, 1) := by decide +kernel
theorem dX8_worth_44 : decode cX8_worth 44 = .ok (.lconst 1, 1) := by decide +kernel
theorem dX8_worth_45 : decode cX8_worth 45 = .ok (.lastore, 1) := by decide +kernel
theorem dX8_worth_46 : decode cX8_worth 46 = .ok (.iconst 1, 1) := by decide +kernel
theorem dX8_worth_47 : decode cX8_worth 47 = .ok (.istore_n 3, 1) := by decide +kernel
theorem dX8_worth_48 : decode cX8_worth 48 = .ok (.iload_n 3, 1) := by decide +kernel
theorem dX8_worth_49 : decode cX8_worth 49 = .ok (.iconst 1, 1) := by decide +kernel
theorem dX8_worth_50 : decode cX8_worth 50 = .ok (.iload_n 2, 1) := by decide +kernel
theorem dX8_worth_51 : decode cX8_worth 51 = .ok (.ishl, 1) := by decide +kernel
theorem dX8_worth_52 : decode cX8_worth 52 = .ok (.if_icmp .ge 157, 3) := by decide +kernel
theorem dX8_worth_55 : decode cX8_worth 55 = .ok (.aload_n 0, 1) := by decide +kernel
theorem dX8_worth_56 : decode cX8_worth 56 = .ok (.getfield 26, 3) := by decide +kernel
theorem dX8_worth_59 : decode cX8_worth 59 = .ok (.iload_n 3, 1) := by decide +kernel
theorem dX8_worth_60 : decode cX8_worth 60 = .ok (.invokestatic 65, 3) := by decide +kernel
theorem dX8_worth_63 : decode cX8_worth 63 = .ok (.iconst 1, 1) := by decide +kernel
theorem dX8_worth_64 : decode cX8_worth 64 = .ok (.isub, 1) := by decide +kernel
theorem dX8_worth_65 : decode cX8_worth 65 = .ok (.iaload, 1) := by decide +kernel
theorem dX8_worth_66 : decode cX8_worth 66 = .ok (.istore 4, 2) := by decide +kernel
theorem dX8_worth_68 : decode cX8_worth 68 = .ok (.lconst 0, 1) := by decide +kernel
theorem dX8_worth_69 : decode cX8_worth 69 = .ok (.lstore 5, 2) := by decide +kernel
theorem dX8_worth_71 : decode cX8_worth 71 = .ok (.lconst 1, 1) := by decide +kernel
theorem dX8_worth_72 : decode cX8_worth 72 = .ok (.lstore 7, 2) := by decide +kernel
theorem dX8_worth_74 : decode cX8_worth 74 = .ok (.iload_n 2, 1) := by decide +kernel
theorem dX8_worth_75 : decode cX8_worth 75 = .ok (.iconst 1, 1) := by decide +kernel
theorem dX8_worth_76 : decode cX8_worth 76 = .ok (.isub, 1) := by decide +kernel
theorem dX8_worth_77 : decode cX8_worth 77 = .ok (.istore 9, 2) := by decide +kernel
theorem dX8_worth_79 : decode cX8_worth 79 = .ok (.iload 9, 2) := by decide +kernel
theorem dX8_worth_81 : decode cX8_worth 81 = .ok (.ifCond .lt 114, 3) := by decide +kernel
theorem dX8_worth_84 : decode cX8_worth 84 = .ok (.iload_n 3, 1) := by decide +kernel
theorem dX8_worth_85 : decode cX8_worth 85 = .ok (.iload 9, 2) := by decide +kernel
theorem dX8_worth_87 : decode cX8_worth 87 = .ok (.ishr, 1) := by decide +kernel
theorem dX8_worth_88 : decode cX8_worth 88 = .ok (.iconst 1, 1) := by decide +kernel
theorem dX8_worth_89 : decode cX8_worth 89 = .ok (.iand, 1) := by decide +kernel
theorem dX8_worth_90 : decode cX8_worth 90 = .ok (.iconst 1, 1) := by decide +kernel
theorem dX8_worth_91 : decode cX8_worth 91 = .ok (.if_icmp .ne 98, 3) := by decide +kernel
theorem dX8_worth_94 : decode cX8_worth 94 = .ok (.aload_n 0, 1) := by decide +kernel
theorem dX8_worth_95 : decode cX8_worth 95 = .ok (.getfield 26, 3) := by decide +kernel
theorem dX8_worth_98 : decode cX8_worth 98 = .ok (.iload 9, 2) := by decide +kernel
theorem dX8_worth_100 : decode cX8_worth 100 = .ok (.iaload, 1) := by decide +kernel
theorem dX8_worth_101 : decode cX8_worth 101 = .ok (.istore 10, 2) := by decide +kernel
theorem dX8_worth_103 : decode cX8_worth 103 = .ok (.aload_n 0, 1) := by decide +kernel
theorem dX8_worth_104 : decode cX8_worth 104 = .ok (.iconst 0, 1) := by decide +kernel
theorem dX8_worth_105 : decode cX8_worth 105 = .ok (.iload 4, 2) := by decide +kernel
theorem dX8_worth_107 : decode cX8_worth 107 = .ok (.invokevirtual 47, 3) := by decide +kernel
theorem dX8_worth_110 : decode cX8_worth 110 = .ok (.i2l, 1) := by decide +kernel
theorem dX8_worth_111 : decode cX8_worth 111 = .ok (.aload_n 0, 1) := by decide +kernel
theorem dX8_worth_112 : decode cX8_worth 112 = .ok (.iconst 0, 1) := by decide +kernel
theorem dX8_worth_113 : decode cX8_worth 113 = .ok (.iload 4, 2) := by decide +kernel
theorem dX8_worth_115 : decode cX8_worth 115 = .ok (.invokevirtual 47, 3) := by decide +kernel
theorem dX8_worth_118 : decode cX8_worth 118 = .ok (.i2l, 1) := by decide +kernel
theorem dX8_worth_119 : decode cX8_worth 119 = .ok (.lmul, 1) := by decide +kernel
theorem dX8_worth_120 : decode cX8_worth 120 = .ok (.aload_n 0, 1) := by decide +kernel
theorem dX8_worth_121 : decode cX8_worth 121 = .ok (.iconst 0, 1) := by decide +kernel
theorem dX8_worth_122 : decode cX8_worth 122 = .ok (.iload 10, 2) := by decide +kernel
theorem dX8_worth_124 : decode cX8_worth 124 = .ok (.invokevirtual 47, 3) := by decide +kernel
theorem dX8_worth_127 : decode cX8_worth 127 = .ok (.i2l, 1) := by decide +kernel
theorem dX8_worth_128 : decode cX8_worth 128 = .ok (.aload_n 0, 1) := by decide +kernel
theorem dX8_worth_129 : decode cX8_worth 129 = .ok (.iconst 0, 1) := by decide +kernel
theorem dX8_worth_130 : decode cX8_worth 130 = .ok (.iload 10, 2) := by decide +kernel
theorem dX8_worth_132 : decode cX8_worth 132 = .ok (.invokevirtual 47, 3) := by decide +kernel
theorem dX8_worth_135 : decode cX8_worth 135 = .ok (.i2l, 1) := by decide +kernel
theorem dX8_worth_136 : decode cX8_worth 136 = .ok (.lmul, 1) := by decide +kernel
theorem dX8_worth_137 : decode cX8_worth 137 = .ok (.ladd, 1) := by decide +kernel
theorem dX8_worth_138 : decode cX8_worth 138 = .ok (.aload_n 0, 1) := by decide +kernel
theorem dX8_worth_139 : decode cX8_worth 139 = .ok (.iload 4, 2) := by decide +kernel
theorem dX8_worth_141 : decode cX8_worth 141 = .ok (.iload 10, 2) := by decide +kernel
theorem dX8_worth_143 : decode cX8_worth 143 = .ok (.invokevirtual 47, 3) := by decide +kernel
theorem dX8_worth_146 : decode cX8_worth 146 = .ok (.i2l, 1) := by decide +kernel
theorem dX8_worth_147 : decode cX8_worth 147 = .ok (.aload_n 0, 1) := by decide +kernel
theorem dX8_worth_148 : decode cX8_worth 148 = .ok (.iload 4, 2) := by decide +kernel
theorem dX8_worth_150 : decode cX8_worth 150 = .ok (.iload 10, 2) := by decide +kernel
theorem dX8_worth_152 : decode cX8_worth 152 = .ok (.invokevirtual 47, 3) := by decide +kernel
theorem dX8_worth_155 : decode cX8_worth 155 = .ok (.i2l, 1) := by decide +kernel
theorem dX8_worth_156 : decode cX8_worth 156 = .ok (.lmul, 1) := by decide +kernel
theorem dX8_worth_157 : decode cX8_worth 157 = .ok (.lsub, 1) := by decide +kernel
theorem dX8_worth_158 : decode cX8_worth 158 = .ok (.lstore 11, 2) := by decide +kernel
theorem dX8_worth_160 : decode cX8_worth 160 = .ok (.lload 5, 2) := by decide +kernel
theorem dX8_worth_162 : decode cX8_worth 162 = .ok (.lload 7, 2) := by decide +kernel
theorem dX8_worth_164 : decode cX8_worth 164 = .ok (.lload 11, 2) := by decide +kernel
theorem dX8_worth_166 : decode cX8_worth 166 = .ok (.lmul, 1) := by decide +kernel
theorem dX8_worth_167 : decode cX8_worth 167 = .ok (.aload_n 0, 1) := by decide +kernel
theorem dX8_worth_168 : decode cX8_worth 168 = .ok (.getfield 29, 3) := by decide +kernel
theorem dX8_worth_171 : decode cX8_worth 171 = .ok (.iload_n 3, 1) := by decide +kernel
theorem dX8_worth_172 : decode cX8_worth 172 = .ok (.iconst 1, 1) := by decide +kernel
theorem dX8_worth_173 : decode cX8_worth 173 = .ok (.iload 9, 2) := by decide +kernel
theorem dX8_worth_175 : decode cX8_worth 175 = .ok (.ishl, 1) := by decide +kernel
theorem dX8_worth_176 : decode cX8_worth 176 = .ok (.iconst (-1), 1) := by decide +kernel
theorem dX8_worth_177 : decode cX8_worth 177 = .ok (.ixor, 1) := by decide +kernel
theorem dX8_worth_178 : decode cX8_worth 178 = .ok (.iand, 1) := by decide +kernel
theorem dX8_worth_179 : decode cX8_worth 179 = .ok (.laload, 1) := by decide +kernel
theorem dX8_worth_180 : decode cX8_worth 180 = .ok (.lmul, 1) := by decide +kernel
theorem dX8_worth_181 : decode cX8_worth 181 = .ok (.ladd, 1) := by decide +kernel
theorem dX8_worth_182 : decode cX8_worth 182 = .ok (.lstore 5, 2) := by decide +kernel
theorem dX8_worth_184 : decode cX8_worth 184 = .ok (.lload 7, 2) := by decide +kernel
theorem dX8_worth_186 : decode cX8_worth 186 = .ok (.lneg, 1) := by decide +kernel
theorem dX8_worth_187 : decode cX8_worth 187 = .ok (.lstore 7, 2) := by decide +kernel
theorem dX8_worth_189 : decode cX8_worth 189 = .ok (.iinc 9 (-1), 3) := by decide +kernel
theorem dX8_worth_192 : decode cX8_worth 192 = .ok (.goto (-113), 3) := by decide +kernel
theorem dX8_worth_195 : decode cX8_worth 195 = .ok (.aload_n 0, 1) := by decide +kernel
theorem dX8_worth_196 : decode cX8_worth 196 = .ok (.getfield 29, 3) := by decide +kernel
theorem dX8_worth_199 : decode cX8_worth 199 = .ok (.iload_n 3, 1) := by decide +kernel
theorem dX8_worth_200 : decode cX8_worth 200 = .ok (.lload 5, 2) := by decide +kernel
theorem dX8_worth_202 : decode cX8_worth 202 = .ok (.lastore, 1) := by decide +kernel
theorem dX8_worth_203 : decode cX8_worth 203 = .ok (.iinc 3 1, 3) := by decide +kernel
theorem dX8_worth_206 : decode cX8_worth 206 = .ok (.goto (-158), 3) := by decide +kernel
theorem dX8_worth_209 : decode cX8_worth 209 = .ok (.aload_n 0, 1) := by decide +kernel
theorem dX8_worth_210 : decode cX8_worth 210 = .ok (.getfield 29, 3) := by decide +kernel
theorem dX8_worth_213 : decode cX8_worth 213 = .ok (.iconst 1, 1) := by decide +kernel
theorem dX8_worth_214 : decode cX8_worth 214 = .ok (.iload_n 2, 1) := by decide +kernel
theorem dX8_worth_215 : decode cX8_worth 215 = .ok (.ishl, 1) := by decide +kernel
theorem dX8_worth_216 : decode cX8_worth 216 = .ok (.iconst 1, 1) := by decide +kernel
theorem dX8_worth_217 : decode cX8_worth 217 = .ok (.isub, 1) := by decide +kernel
theorem dX8_worth_218 : decode cX8_worth 218 = .ok (.laload, 1) := by decide +kernel
theorem dX8_worth_219 : decode cX8_worth 219 = .ok (.lreturn, 1) := by decide +kernel
theorem dX8_bits_0 : decode cX8_bits 0 = .ok (.iconst 0, 1) := by decide +kernel
theorem dX8_bits_1 : decode cX8_bits 1 = .ok (.istore_n 1, 1) := by decide +kernel
theorem dX8_bits_2 : decode cX8_bits 2 = .ok (.iconst 0, 1) := by decide +kernel
theorem dX8_bits_3 : decode cX8_bits 3 = .ok (.istore_n 2, 1) := by decide +kernel
theorem dX8_bits_4 : decode cX8_bits 4 = .ok (.iload_n 2, 1) := by decide +kernel
theorem dX8_bits_5 : decode cX8_bits 5 = .ok (.bipush 10, 2) := by decide +kernel
theorem dX8_bits_7 : decode cX8_bits 7 = .ok (.if_icmp .ge 17, 3) := by decide +kernel
theorem dX8_bits_10 : decode cX8_bits 10 = .ok (.iload_n 1, 1) := by decide +kernel
theorem dX8_bits_11 : decode cX8_bits 11 = .ok (.iload_n 0, 1) := by decide +kernel
theorem dX8_bits_12 : decode cX8_bits 12 = .ok (.iload_n 2, 1) := by decide +kernel
theorem dX8_bits_13 : decode cX8_bits 13 = .ok (.ishr, 1) := by decide +kernel
theorem dX8_bits_14 : decode cX8_bits 14 = .ok (.iconst 1, 1) := by decide +kernel
theorem dX8_bits_15 : decode cX8_bits 15 = .ok (.iand, 1) := by decide +kernel
theorem dX8_bits_16 : decode cX8_bits 16 = .ok (.iadd, 1) := by decide +kernel
theorem dX8_bits_17 : decode cX8_bits 17 = .ok (.istore_n 1, 1) := by decide +kernel
theorem dX8_bits_18 : decode cX8_bits 18 = .ok (.iinc 2 1, 3) := by decide +kernel
theorem dX8_bits_21 : decode cX8_bits 21 = .ok (.goto (-17), 3) := by decide +kernel
theorem dX8_bits_24 : decode cX8_bits 24 = .ok (.iload_n 1, 1) := by decide +kernel
theorem dX8_bits_25 : decode cX8_bits 25 = .ok (.ireturn, 1) := by decide +kernel
theorem dX8_flat_0 : decode cX8_flat 0 = .ok (.iconst 1, 1) := by decide +kernel
theorem dX8_flat_1 : decode cX8_flat 1 = .ok (.istore_n 1, 1) := by decide +kernel
theorem dX8_flat_2 : decode cX8_flat 2 = .ok (.iload_n 1, 1) := by decide +kernel
theorem dX8_flat_3 : decode cX8_flat 3 = .ok (.iconst 1, 1) := by decide +kernel
theorem dX8_flat_4 : decode cX8_flat 4 = .ok (.aload_n 0, 1) := by decide +kernel
theorem dX8_flat_5 : decode cX8_flat 5 = .ok (.getfield 7, 3) := by decide +kernel
theorem dX8_flat_8 : decode cX8_flat 8 = .ok (.iconst 1, 1) := by decide +kernel
theorem dX8_flat_9 : decode cX8_flat 9 = .ok (.isub, 1) := by decide +kernel
theorem dX8_flat_10 : decode cX8_flat 10 = .ok (.ishl, 1) := by decide +kernel
theorem dX8_flat_11 : decode cX8_flat 11 = .ok (.if_icmp .ge 21, 3) := by decide +kernel
theorem dX8_flat_14 : decode cX8_flat 14 = .ok (.aload_n 0, 1) := by decide +kernel
theorem dX8_flat_15 : decode cX8_flat 15 = .ok (.iload_n 1, 1) := by decide +kernel
theorem dX8_flat_16 : decode cX8_flat 16 = .ok (.invokevirtual 68, 3) := by decide +kernel
theorem dX8_flat_19 : decode cX8_flat 19 = .ok (.lconst 0, 1) := by decide +kernel
theorem dX8_flat_20 : decode cX8_flat 20 = .ok (.lcmp, 1) := by decide +kernel
theorem dX8_flat_21 : decode cX8_flat 21 = .ok (.ifCond .ge 5, 3) := by decide +kernel
theorem dX8_flat_24 : decode cX8_flat 24 = .ok (.iconst 0, 1) := by decide +kernel
theorem dX8_flat_25 : decode cX8_flat 25 = .ok (.ireturn, 1) := by decide +kernel
theorem dX8_flat_26 : decode cX8_flat 26 = .ok (.iinc 1 1, 3) := by decide +kernel
theorem dX8_flat_29 : decode cX8_flat 29 = .ok (.goto (-27), 3) := by decide +kernel
theorem dX8_flat_32 : decode cX8_flat 32 = .ok (.iconst 1, 1) := by decide +kernel
theorem dX8_flat_33 : decode cX8_flat 33 = .ok (.ireturn, 1) := by decide +kernel
theorem dX8_ways_0 : decode cX8_ways 0 = .ok (.iconst 0, 1) := by decide +kernel
theorem dX8_ways_1 : decode cX8_ways 1 = .ok (.istore_n 1, 1) := by decide +kernel
theorem dX8_ways_2 : decode cX8_ways 2 = .ok (.iconst 1, 1) := by decide +kernel
theorem dX8_ways_3 : decode cX8_ways 3 = .ok (.istore_n 2, 1) := by decide +kernel
theorem dX8_ways_4 : decode cX8_ways 4 = .ok (.iload_n 2, 1) := by decide +kernel
theorem dX8_ways_5 : decode cX8_ways 5 = .ok (.iconst 1, 1) := by decide +kernel
theorem dX8_ways_6 : decode cX8_ways 6 = .ok (.aload_n 0, 1) := by decide +kernel
theorem dX8_ways_7 : decode cX8_ways 7 = .ok (.getfield 7, 3) := by decide +kernel
theorem dX8_ways_10 : decode cX8_ways 10 = .ok (.iconst 1, 1) := by decide +kernel
theorem dX8_ways_11 : decode cX8_ways 11 = .ok (.isub, 1) := by decide +kernel
theorem dX8_ways_12 : decode cX8_ways 12 = .ok (.ishl, 1) := by decide +kernel
theorem dX8_ways_13 : decode cX8_ways 13 = .ok (.if_icmp .ge 36, 3) := by decide +kernel
theorem dX8_ways_16 : decode cX8_ways 16 = .ok (.iload_n 2, 1) := by decide +kernel
theorem dX8_ways_17 : decode cX8_ways 17 = .ok (.invokestatic 65, 3) := by decide +kernel
theorem dX8_ways_20 : decode cX8_ways 20 = .ok (.iload_n 1, 1) := by decide +kernel
theorem dX8_ways_21 : decode cX8_ways 21 = .ok (.if_icmp .le 20, 3) := by decide +kernel
theorem dX8_ways_24 : decode cX8_ways 24 = .ok (.aload_n 0, 1) := by decide +kernel
theorem dX8_ways_25 : decode cX8_ways 25 = .ok (.iload_n 2, 1) := by decide +kernel
theorem dX8_ways_26 : decode cX8_ways 26 = .ok (.invokevirtual 68, 3) := by decide +kernel
theorem dX8_ways_29 : decode cX8_ways 29 = .ok (.lconst 0, 1) := by decide +kernel
theorem dX8_ways_30 : decode cX8_ways 30 = .ok (.lcmp, 1) := by decide +kernel
theorem dX8_ways_31 : decode cX8_ways 31 = .ok (.ifCond .eq 10, 3) := by decide +kernel
theorem dX8_ways_34 : decode cX8_ways 34 = .ok (.iload_n 2, 1) := by decide +kernel
theorem dX8_ways_35 : decode cX8_ways 35 = .ok (.invokestatic 65, 3) := by decide +kernel
theorem dX8_ways_38 : decode cX8_ways 38 = .ok (.goto 4, 3) := by decide +kernel
theorem dX8_ways_41 : decode cX8_ways 41 = .ok (.iload_n 1, 1) := by decide +kernel
theorem dX8_ways_42 : decode cX8_ways 42 = .ok (.istore_n 1, 1) := by decide +kernel
theorem dX8_ways_43 : decode cX8_ways 43 = .ok (.iinc 2 1, 3) := by decide +kernel
theorem dX8_ways_46 : decode cX8_ways 46 = .ok (.goto (-42), 3) := by decide +kernel
theorem dX8_ways_49 : decode cX8_ways 49 = .ok (.iload_n 1, 1) := by decide +kernel
theorem dX8_ways_50 : decode cX8_ways 50 = .ok (.ireturn, 1) := by decide +kernel
theorem dX8_bulk_0 : decode cX8_bulk 0 = .ok (.iload_n 1, 1) := by decide +kernel
theorem dX8_bulk_1 : decode cX8_bulk 1 = .ok (.iconst 2, 1) := by decide +kernel
theorem dX8_bulk_2 : decode cX8_bulk 2 = .ok (.aload_n 0, 1) := by decide +kernel
theorem dX8_bulk_3 : decode cX8_bulk 3 = .ok (.getfield 7, 3) := by decide +kernel
theorem dX8_bulk_6 : decode cX8_bulk 6 = .ok (.invokestatic 39, 3) := by decide +kernel
theorem dX8_bulk_9 : decode cX8_bulk 9 = .ok (.ifCond .eq 17, 3) := by decide +kernel
theorem dX8_bulk_12 : decode cX8_bulk 12 = .ok (.aload_n 0, 1) := by decide +kernel
theorem dX8_bulk_13 : decode cX8_bulk 13 = .ok (.iconst 1, 1) := by decide +kernel
theorem dX8_bulk_14 : decode cX8_bulk 14 = .ok (.iload_n 1, 1) := by decide +kernel
theorem dX8_bulk_15 : decode cX8_bulk 15 = .ok (.iconst 1, 1) := by decide +kernel
theorem dX8_bulk_16 : decode cX8_bulk 16 = .ok (.isub, 1) := by decide +kernel
theorem dX8_bulk_17 : decode cX8_bulk 17 = .ok (.ishl, 1) := by decide +kernel
theorem dX8_bulk_18 : decode cX8_bulk 18 = .ok (.iconst 1, 1) := by decide +kernel
theorem dX8_bulk_19 : decode cX8_bulk 19 = .ok (.isub, 1) := by decide +kernel
theorem dX8_bulk_20 : decode cX8_bulk 20 = .ok (.invokevirtual 68, 3) := by decide +kernel
theorem dX8_bulk_23 : decode cX8_bulk 23 = .ok (.goto 6, 3) := by decide +kernel
theorem dX8_bulk_26 : decode cX8_bulk 26 = .ok (.ldc2_w 72, 3) := by decide +kernel
theorem dX8_bulk_29 : decode cX8_bulk 29 = .ok (.lreturn, 1) := by decide +kernel
theorem dX8_isCut_0 : decode cX8_isCut 0 = .ok (.iload_n 1, 1) := by decide +kernel
theorem dX8_isCut_1 : decode cX8_isCut 1 = .ok (.iconst 2, 1) := by decide +kernel
theorem dX8_isCut_2 : decode cX8_isCut 2 = .ok (.iconst 1, 1) := by decide +kernel
theorem dX8_isCut_3 : decode cX8_isCut 3 = .ok (.aload_n 0, 1) := by decide +kernel
theorem dX8_isCut_4 : decode cX8_isCut 4 = .ok (.getfield 7, 3) := by decide +kernel
theorem dX8_isCut_7 : decode cX8_isCut 7 = .ok (.ishl, 1) := by decide +kernel
theorem dX8_isCut_8 : decode cX8_isCut 8 = .ok (.iconst 1, 1) := by decide +kernel
theorem dX8_isCut_9 : decode cX8_isCut 9 = .ok (.isub, 1) := by decide +kernel
theorem dX8_isCut_10 : decode cX8_isCut 10 = .ok (.invokestatic 39, 3) := by decide +kernel
theorem dX8_isCut_13 : decode cX8_isCut 13 = .ok (.ifCond .eq 13, 3) := by decide +kernel
theorem dX8_isCut_16 : decode cX8_isCut 16 = .ok (.iload_n 1, 1) := by decide +kernel
theorem dX8_isCut_17 : decode cX8_isCut 17 = .ok (.iconst 2, 1) := by decide +kernel
theorem dX8_isCut_18 : decode cX8_isCut 18 = .ok (.irem, 1) := by decide +kernel
theorem dX8_isCut_19 : decode cX8_isCut 19 = .ok (.ifCond .ne 7, 3) := by decide +kernel
theorem dX8_isCut_22 : decode cX8_isCut 22 = .ok (.iconst 1, 1) := by decide +kernel
theorem dX8_isCut_23 : decode cX8_isCut 23 = .ok (.goto 4, 3) := by decide +kernel
theorem dX8_isCut_26 : decode cX8_isCut 26 = .ok (.iconst 0, 1) := by decide +kernel
theorem dX8_isCut_27 : decode cX8_isCut 27 = .ok (.ireturn, 1) := by decide +kernel
theorem dX8_parts_0 : decode cX8_parts 0 = .ok (.iload_n 0, 1) := by decide +kernel
theorem dX8_parts_1 : decode cX8_parts 1 = .ok (.iload_n 1, 1) := by decide +kernel
theorem dX8_parts_2 : decode cX8_parts 2 = .ok (.ishr, 1) := by decide +kernel
theorem dX8_parts_3 : decode cX8_parts 3 = .ok (.iconst 1, 1) := by decide +kernel
theorem dX8_parts_4 : decode cX8_parts 4 = .ok (.iand, 1) := by decide +kernel
theorem dX8_parts_5 : decode cX8_parts 5 = .ok (.iload_n 0, 1) := by decide +kernel
theorem dX8_parts_6 : decode cX8_parts 6 = .ok (.iload_n 2, 1) := by decide +kernel
theorem dX8_parts_7 : decode cX8_parts 7 = .ok (.ishr, 1) := by decide +kernel
theorem dX8_parts_8 : decode cX8_parts 8 = .ok (.iconst 1, 1) := by decide +kernel
theorem dX8_parts_9 : decode cX8_parts 9 = .ok (.iand, 1) := by decide +kernel
theorem dX8_parts_10 : decode cX8_parts 10 = .ok (.if_icmp .eq 7, 3) := by decide +kernel
theorem dX8_parts_13 : decode cX8_parts 13 = .ok (.iconst 1, 1) := by decide +kernel
theorem dX8_parts_14 : decode cX8_parts 14 = .ok (.goto 4, 3) := by decide +kernel
theorem dX8_parts_17 : decode cX8_parts 17 = .ok (.iconst 0, 1) := by decide +kernel
theorem dX8_parts_18 : decode cX8_parts 18 = .ok (.ireturn, 1) := by decide +kernel
theorem dX8_add_0 : decode cX8_add 0 = .ok (.aload_n 0, 1) := by decide +kernel
theorem dX8_add_1 : decode cX8_add 1 = .ok (.iload_n 1, 1) := by decide +kernel
theorem dX8_add_2 : decode cX8_add 2 = .ok (.invokevirtual 74, 3) := by decide +kernel
theorem dX8_add_5 : decode cX8_add 5 = .ok (.ifCond .eq 14, 3) := by decide +kernel
theorem dX8_add_8 : decode cX8_add 8 = .ok (.iload_n 2, 1) := by decide +kernel
theorem dX8_add_9 : decode cX8_add 9 = .ok (.bipush (-30), 2) := by decide +kernel
theorem dX8_add_11 : decode cX8_add 11 = .ok (.bipush 30, 2) := by decide +kernel
theorem dX8_add_13 : decode cX8_add 13 = .ok (.invokestatic 39, 3) := by decide +kernel
theorem dX8_add_16 : decode cX8_add 16 = .ok (.ifCond .ne 5, 3) := by decide +kernel
theorem dX8_add_19 : decode cX8_add 19 = .ok (.iconst (-1), 1) := by decide +kernel
theorem dX8_add_20 : decode cX8_add 20 = .ok (.ireturn, 1) := by decide +kernel
theorem dX8_add_21 : decode cX8_add 21 = .ok (.iconst 0, 1) := by decide +kernel
theorem dX8_add_22 : decode cX8_add 22 = .ok (.istore_n 3, 1) := by decide +kernel
theorem dX8_add_23 : decode cX8_add 23 = .ok (.iload_n 3, 1) := by decide +kernel
theorem dX8_add_24 : decode cX8_add 24 = .ok (.aload_n 0, 1) := by decide +kernel
theorem dX8_add_25 : decode cX8_add 25 = .ok (.getfield 7, 3) := by decide +kernel
theorem dX8_add_28 : decode cX8_add 28 = .ok (.if_icmp .ge 58, 3) := by decide +kernel
theorem dX8_add_31 : decode cX8_add 31 = .ok (.iconst 0, 1) := by decide +kernel
theorem dX8_add_32 : decode cX8_add 32 = .ok (.istore 4, 2) := by decide +kernel
theorem dX8_add_34 : decode cX8_add 34 = .ok (.iload 4, 2) := by decide +kernel
theorem dX8_add_36 : decode cX8_add 36 = .ok (.aload_n 0, 1) := by decide +kernel
theorem dX8_add_37 : decode cX8_add 37 = .ok (.getfield 7, 3) := by decide +kernel
theorem dX8_add_40 : decode cX8_add 40 = .ok (.if_icmp .ge 40, 3) := by decide +kernel
theorem dX8_add_43 : decode cX8_add 43 = .ok (.iload_n 1, 1) := by decide +kernel
theorem dX8_add_44 : decode cX8_add 44 = .ok (.iload_n 3, 1) := by decide +kernel
theorem dX8_add_45 : decode cX8_add 45 = .ok (.iload 4, 2) := by decide +kernel
theorem dX8_add_47 : decode cX8_add 47 = .ok (.invokestatic 77, 3) := by decide +kernel
theorem dX8_add_50 : decode cX8_add 50 = .ok (.ifCond .eq 24, 3) := by decide +kernel
theorem dX8_add_53 : decode cX8_add 53 = .ok (.aload_n 0, 1) := by decide +kernel
theorem dX8_add_54 : decode cX8_add 54 = .ok (.iload_n 3, 1) := by decide +kernel
theorem dX8_add_55 : decode cX8_add 55 = .ok (.iload 4, 2) := by decide +kernel
theorem dX8_add_57 : decode cX8_add 57 = .ok (.invokevirtual 47, 3) := by decide +kernel
theorem dX8_add_60 : decode cX8_add 60 = .ok (.iload_n 2, 1) := by decide +kernel
theorem dX8_add_61 : decode cX8_add 61 = .ok (.iadd, 1) := by decide +kernel
theorem dX8_add_62 : decode cX8_add 62 = .ok (.iconst 0, 1) := by decide +kernel
theorem dX8_add_63 : decode cX8_add 63 = .ok (.bipush 30, 2) := by decide +kernel
theorem dX8_add_65 : decode cX8_add 65 = .ok (.invokestatic 39, 3) := by decide +kernel
theorem dX8_add_68 : decode cX8_add 68 = .ok (.ifCond .ne 6, 3) := by decide +kernel
theorem dX8_add_71 : decode cX8_add 71 = .ok (.bipush (-2), 2) := by decide +kernel
theorem dX8_add_73 : decode cX8_add 73 = .ok (.ireturn, 1) := by decide +kernel
theorem dX8_add_74 : decode cX8_add 74 = .ok (.iinc 4 1, 3) := by decide +kernel
theorem dX8_add_77 : decode cX8_add 77 = .ok (.goto (-43), 3) := by decide +kernel
theorem dX8_add_80 : decode cX8_add 80 = .ok (.iinc 3 1, 3) := by decide +kernel
theorem dX8_add_83 : decode cX8_add 83 = .ok (.goto (-60), 3) := by decide +kernel
theorem dX8_add_86 : decode cX8_add 86 = .ok (.iconst 0, 1) := by decide +kernel
theorem dX8_add_87 : decode cX8_add 87 = .ok (.istore_n 3, 1) := by decide +kernel
theorem dX8_add_88 : decode cX8_add 88 = .ok (.iload_n 3, 1) := by decide +kernel
theorem dX8_add_89 : decode cX8_add 89 = .ok (.aload_n 0, 1) := by decide +kernel
theorem dX8_add_90 : decode cX8_add 90 = .ok (.getfield 7, 3) := by decide +kernel
theorem dX8_add_93 : decode cX8_add 93 = .ok (.if_icmp .ge 57, 3) := by decide +kernel
theorem dX8_add_96 : decode cX8_add 96 = .ok (.iconst 0, 1) := by decide +kernel
theorem dX8_add_97 : decode cX8_add 97 = .ok (.istore 4, 2) := by decide +kernel
theorem dX8_add_99 : decode cX8_add 99 = .ok (.iload 4, 2) := by decide +kernel
theorem dX8_add_101 : decode cX8_add 101 = .ok (.aload_n 0, 1) := by decide +kernel
theorem dX8_add_102 : decode cX8_add 102 = .ok (.getfield 7, 3) := by decide +kernel
theorem dX8_add_105 : decode cX8_add 105 = .ok (.if_icmp .ge 39, 3) := by decide +kernel
theorem dX8_add_108 : decode cX8_add 108 = .ok (.aload_n 0, 1) := by decide +kernel
theorem dX8_add_109 : decode cX8_add 109 = .ok (.getfield 13, 3) := by decide +kernel
theorem dX8_add_112 : decode cX8_add 112 = .ok (.bipush 6, 2) := by decide +kernel
theorem dX8_add_114 : decode cX8_add 114 = .ok (.iload_n 3, 1) := by decide +kernel
theorem dX8_add_115 : decode cX8_add 115 = .ok (.imul, 1) := by decide +kernel
theorem dX8_add_116 : decode cX8_add 116 = .ok (.iload 4, 2) := by decide +kernel
theorem dX8_add_118 : decode cX8_add 118 = .ok (.iadd, 1) := by decide +kernel
theorem dX8_add_119 : decode cX8_add 119 = .ok (.dup2, 1) := by decide +kernel
theorem dX8_add_120 : decode cX8_add 120 = .ok (.iaload, 1) := by decide +kernel
theorem dX8_add_121 : decode cX8_add 121 = .ok (.iload_n 1, 1) := by decide +kernel
theorem dX8_add_122 : decode cX8_add 122 = .ok (.iload_n 3, 1) := by decide +kernel
theorem dX8_add_123 : decode cX8_add 123 = .ok (.iload 4, 2) := by decide +kernel
theorem dX8_add_125 : decode cX8_add 125 = .ok (.invokestatic 77, 3) := by decide +kernel
theorem dX8_add_128 : decode cX8_add 128 = .ok (.ifCond .eq 7, 3) := by decide +kernel
theorem dX8_add_131 : decode cX8_add 131 = .ok (.iload_n 2, 1) := by decide +kernel
theorem dX8_add_132 : decode cX8_add 132 = .ok (.goto 4, 3) := by decide +kernel
theorem dX8_add_135 : decode cX8_add 135 = .ok (.iconst 0, 1) := by decide +kernel
theorem dX8_add_136 : decode cX8_add 136 = .ok (.iadd, 1) := by decide +kernel
theorem dX8_add_137 : decode cX8_add 137 = .ok (.iastore, 1) := by decide +kernel
theorem dX8_add_138 : decode cX8_add 138 = .ok (.iinc 4 1, 3) := by decide +kernel
theorem dX8_add_141 : decode cX8_add 141 = .ok (.goto (-42), 3) := by decide +kernel
theorem dX8_add_144 : decode cX8_add 144 = .ok (.iinc 3 1, 3) := by decide +kernel
theorem dX8_add_147 : decode cX8_add 147 = .ok (.goto (-59), 3) := by decide +kernel
theorem dX8_add_150 : decode cX8_add 150 = .ok (.iconst 0, 1) := by decide +kernel
theorem dX8_add_151 : decode cX8_add 151 = .ok (.ireturn, 1) := by decide +kernel
theorem dX8_bears_0 : decode cX8_bears 0 = .ok (.sipush 9999, 3) := by decide +kernel
theorem dX8_bears_3 : decode cX8_bears 3 = .ok (.istore_n 2, 1) := by decide +kernel
theorem dX8_bears_4 : decode cX8_bears 4 = .ok (.iconst 0, 1) := by decide +kernel
theorem dX8_bears_5 : decode cX8_bears 5 = .ok (.istore_n 3, 1) := by decide +kernel
theorem dX8_bears_6 : decode cX8_bears 6 = .ok (.iload_n 3, 1) := by decide +kernel
theorem dX8_bears_7 : decode cX8_bears 7 = .ok (.aload_n 0, 1) := by decide +kernel
theorem dX8_bears_8 : decode cX8_bears 8 = .ok (.getfield 7, 3) := by decide +kernel
theorem dX8_bears_11 : decode cX8_bears 11 = .ok (.if_icmp .ge 157, 3) := by decide +kernel
theorem dX8_bears_14 : decode cX8_bears 14 = .ok (.iconst 0, 1) := by decide +kernel
theorem dX8_bears_15 : decode cX8_bears 15 = .ok (.istore 4, 2) := by decide +kernel
theorem dX8_bears_17 : decode cX8_bears 17 = .ok (.iload 4, 2) := by decide +kernel
theorem dX8_bears_19 : decode cX8_bears 19 = .ok (.aload_n 0, 1) := by decide +kernel
theorem dX8_bears_20 : decode cX8_bears 20 = .ok (.getfield 7, 3) := by decide +kernel
theorem dX8_bears_23 : decode cX8_bears 23 = .ok (.if_icmp .ge 139, 3) := by decide +kernel
theorem dX8_bears_26 : decode cX8_bears 26 = .ok (.aload_n 0, 1) := by decide +kernel
theorem dX8_bears_27 : decode cX8_bears 27 = .ok (.getfield 17, 3) := by decide +kernel
theorem dX8_bears_30 : decode cX8_bears 30 = .ok (.bipush 6, 2) := by decide +kernel
theorem dX8_bears_32 : decode cX8_bears 32 = .ok (.iload_n 3, 1) := by decide +kernel
theorem dX8_bears_33 : decode cX8_bears 33 = .ok (.imul, 1) := by decide +kernel
theorem dX8_bears_34 : decode cX8_bears 34 = .ok (.iload 4, 2) := by decide +kernel
theorem dX8_bears_36 : decode cX8_bears 36 = .ok (.iadd, 1) := by decide +kernel
theorem dX8_bears_37 : decode cX8_bears 37 = .ok (.iaload, 1) := by decide +kernel
theorem dX8_bears_38 : decode cX8_bears 38 = .ok (.istore 5, 2) := by decide +kernel
theorem dX8_bears_40 : decode cX8_bears 40 = .ok (.iload_n 1, 1) := by decide +kernel
theorem dX8_bears_41 : decode cX8_bears 41 = .ok (.iload_n 3, 1) := by decide +kernel
theorem dX8_bears_42 : decode cX8_bears 42 = .ok (.iload 4, 2) := by decide +kernel
theorem dX8_bears_44 : decode cX8_bears 44 = .ok (.invokestatic 77, 3) := by decide +kernel
theorem dX8_bears_47 : decode cX8_bears 47 = .ok (.ifCond .eq 14, 3) := by decide +kernel
theorem dX8_bears_50 : decode cX8_bears 50 = .ok (.iload 5, 2) := by decide +kernel
theorem dX8_bears_52 : decode cX8_bears 52 = .ok (.iload_n 2, 1) := by decide +kernel
theorem dX8_bears_53 : decode cX8_bears 53 = .ok (.if_icmp .ge 8, 3) := by decide +kernel
theorem dX8_bears_56 : decode cX8_bears 56 = .ok (.iload 5, 2) := by decide +kernel
theorem dX8_bears_58 : decode cX8_bears 58 = .ok (.goto 4, 3) := by decide +kernel
theorem dX8_bears_61 : decode cX8_bears 61 = .ok (.iload_n 2, 1) := by decide +kernel
theorem dX8_bears_62 : decode cX8_bears 62 = .ok (.istore_n 2, 1) := by decide +kernel
theorem dX8_bears_63 : decode cX8_bears 63 = .ok (.iconst 0, 1) := by decide +kernel
theorem dX8_bears_64 : decode cX8_bears 64 = .ok (.istore 6, 2) := by decide +kernel
theorem dX8_bears_66 : decode cX8_bears 66 = .ok (.iload 6, 2) := by decide +kernel
theorem dX8_bears_68 : decode cX8_bears 68 = .ok (.aload_n 0, 1) := by decide +kernel
theorem dX8_bears_69 : decode cX8_bears 69 = .ok (.getfield 7, 3) := by decide +kernel
theorem dX8_bears_72 : decode cX8_bears 72 = .ok (.if_icmp .ge 84, 3) := by decide +kernel
theorem dX8_bears_75 : decode cX8_bears 75 = .ok (.aload_n 0, 1) := by decide +kernel
theorem dX8_bears_76 : decode cX8_bears 76 = .ok (.getfield 17, 3) := by decide +kernel
theorem dX8_bears_79 : decode cX8_bears 79 = .ok (.bipush 6, 2) := by decide +kernel
theorem dX8_bears_81 : decode cX8_bears 81 = .ok (.iload_n 3, 1) := by decide +kernel
theorem dX8_bears_82 : decode cX8_bears 82 = .ok (.imul, 1) := by decide +kernel
theorem dX8_bears_83 : decode cX8_bears 83 = .ok (.iload 6, 2) := by decide +kernel
theorem dX8_bears_85 : decode cX8_bears 85 = .ok (.iadd, 1) := by decide +kernel
theorem dX8_bears_86 : decode cX8_bears 86 = .ok (.iaload, 1) := by decide +kernel
theorem dX8_bears_87 : decode cX8_bears 87 = .ok (.aload_n 0, 1) := by decide +kernel
theorem dX8_bears_88 : decode cX8_bears 88 = .ok (.getfield 17, 3) := by decide +kernel
theorem dX8_bears_91 : decode cX8_bears 91 = .ok (.bipush 6, 2) := by decide +kernel
theorem dX8_bears_93 : decode cX8_bears 93 = .ok (.iload 6, 2) := by decide +kernel
theorem dX8_bears_95 : decode cX8_bears 95 = .ok (.imul, 1) := by decide +kernel
theorem dX8_bears_96 : decode cX8_bears 96 = .ok (.iload 4, 2) := by decide +kernel
theorem dX8_bears_98 : decode cX8_bears 98 = .ok (.iadd, 1) := by decide +kernel
theorem dX8_bears_99 : decode cX8_bears 99 = .ok (.iaload, 1) := by decide +kernel
theorem dX8_bears_100 : decode cX8_bears 100 = .ok (.iadd, 1) := by decide +kernel
theorem dX8_bears_101 : decode cX8_bears 101 = .ok (.iload 5, 2) := by decide +kernel
theorem dX8_bears_103 : decode cX8_bears 103 = .ok (.isub, 1) := by decide +kernel
theorem dX8_bears_104 : decode cX8_bears 104 = .ok (.istore 7, 2) := by decide +kernel
theorem dX8_bears_106 : decode cX8_bears 106 = .ok (.iload 7, 2) := by decide +kernel
theorem dX8_bears_108 : decode cX8_bears 108 = .ok (.ifCond .ge 5, 3) := by decide +kernel
theorem dX8_bears_111 : decode cX8_bears 111 = .ok (.iconst 0, 1) := by decide +kernel
theorem dX8_bears_112 : decode cX8_bears 112 = .ok (.ireturn, 1) := by decide +kernel
theorem dX8_bears_113 : decode cX8_bears 113 = .ok (.iload_n 1, 1) := by decide +kernel
theorem dX8_bears_114 : decode cX8_bears 114 = .ok (.iload_n 3, 1) := by decide +kernel
theorem dX8_bears_115 : decode cX8_bears 115 = .ok (.iload 4, 2) := by decide +kernel
theorem dX8_bears_117 : decode cX8_bears 117 = .ok (.invokestatic 77, 3) := by decide +kernel
theorem dX8_bears_120 : decode cX8_bears 120 = .ok (.ifCond .ne 28, 3) := by decide +kernel
theorem dX8_bears_123 : decode cX8_bears 123 = .ok (.iload_n 1, 1) := by decide +kernel
theorem dX8_bears_124 : decode cX8_bears 124 = .ok (.iload_n 3, 1) := by decide +kernel
theorem dX8_bears_125 : decode cX8_bears 125 = .ok (.iload 6, 2) := by decide +kernel
theorem dX8_bears_127 : decode cX8_bears 127 = .ok (.invokestatic 77, 3) := by decide +kernel
theorem dX8_bears_130 : decode cX8_bears 130 = .ok (.ifCond .eq 18, 3) := by decide +kernel
theorem dX8_bears_133 : decode cX8_bears 133 = .ok (.iload 7, 2) := by decide +kernel
theorem dX8_bears_135 : decode cX8_bears 135 = .ok (.iconst 2, 1) := by decide +kernel
theorem dX8_bears_136 : decode cX8_bears 136 = .ok (.idiv, 1) := by decide +kernel
theorem dX8_bears_137 : decode cX8_bears 137 = .ok (.iload_n 2, 1) := by decide +kernel
theorem dX8_bears_138 : decode cX8_bears 138 = .ok (.if_icmp .ge 10, 3) := by decide +kernel
theorem dX8_bears_141 : decode cX8_bears 141 = .ok (.iload 7, 2) := by decide +kernel
theorem dX8_bears_143 : decode cX8_bears 143 = .ok (.iconst 2, 1) := by decide +kernel
theorem dX8_bears_144 : decode cX8_bears 144 = .ok (.idiv, 1) := by decide +kernel
theorem dX8_bears_145 : decode cX8_bears 145 = .ok (.goto 4, 3) := by decide +kernel
theorem dX8_bears_148 : decode cX8_bears 148 = .ok (.iload_n 2, 1) := by decide +kernel
theorem dX8_bears_149 : decode cX8_bears 149 = .ok (.istore_n 2, 1) := by decide +kernel
theorem dX8_bears_150 : decode cX8_bears 150 = .ok (.iinc 6 1, 3) := by decide +kernel
theorem dX8_bears_153 : decode cX8_bears 153 = .ok (.goto (-87), 3) := by decide +kernel
theorem dX8_bears_156 : decode cX8_bears 156 = .ok (.iinc 4 1, 3) := by decide +kernel
theorem dX8_bears_159 : decode cX8_bears 159 = .ok (.goto (-142), 3) := by decide +kernel
theorem dX8_bears_162 : decode cX8_bears 162 = .ok (.iinc 3 1, 3) := by decide +kernel
theorem dX8_bears_165 : decode cX8_bears 165 = .ok (.goto (-159), 3) := by decide +kernel
theorem dX8_bears_168 : decode cX8_bears 168 = .ok (.iload_n 2, 1) := by decide +kernel
theorem dX8_bears_169 : decode cX8_bears 169 = .ok (.ireturn, 1) := by decide +kernel
theorem dX8_peelAll_0 : decode cX8_peelAll 0 = .ok (.iconst 0, 1) := by decide +kernel
theorem dX8_peelAll_1 : decode cX8_peelAll 1 = .ok (.istore_n 1, 1) := by decide +kernel
theorem dX8_peelAll_2 : decode cX8_peelAll 2 = .ok (.iload_n 1, 1) := by decide +kernel
theorem dX8_peelAll_3 : decode cX8_peelAll 3 = .ok (.bipush 36, 2) := by decide +kernel
theorem dX8_peelAll_5 : decode cX8_peelAll 5 = .ok (.if_icmp .ge 23, 3) := by decide +kernel
theorem dX8_peelAll_8 : decode cX8_peelAll 8 = .ok (.aload_n 0, 1) := by decide +kernel
theorem dX8_peelAll_9 : decode cX8_peelAll 9 = .ok (.getfield 17, 3) := by decide +kernel
theorem dX8_peelAll_12 : decode cX8_peelAll 12 = .ok (.iload_n 1, 1) := by decide +kernel
theorem dX8_peelAll_13 : decode cX8_peelAll 13 = .ok (.iconst 2, 1) := by decide +kernel
theorem dX8_peelAll_14 : decode cX8_peelAll 14 = .ok (.aload_n 0, 1) := by decide +kernel
theorem dX8_peelAll_15 : decode cX8_peelAll 15 = .ok (.getfield 13, 3) := by decide +kernel
theorem dX8_peelAll_18 : decode cX8_peelAll 18 = .ok (.iload_n 1, 1) := by decide +kernel
theorem dX8_peelAll_19 : decode cX8_peelAll 19 = .ok (.iaload, 1) := by decide +kernel
theorem dX8_peelAll_20 : decode cX8_peelAll 20 = .ok (.imul, 1) := by decide +kernel
theorem dX8_peelAll_21 : decode cX8_peelAll 21 = .ok (.iastore, 1) := by decide +kernel
theorem dX8_peelAll_22 : decode cX8_peelAll 22 = .ok (.iinc 1 1, 3) := by decide +kernel
theorem dX8_peelAll_25 : decode cX8_peelAll 25 = .ok (.goto (-23), 3) := by decide +kernel
theorem dX8_peelAll_28 : decode cX8_peelAll 28 = .ok (.iconst 2, 1) := by decide +kernel
theorem dX8_peelAll_29 : decode cX8_peelAll 29 = .ok (.istore_n 1, 1) := by decide +kernel
theorem dX8_peelAll_30 : decode cX8_peelAll 30 = .ok (.iload_n 1, 1) := by decide +kernel
theorem dX8_peelAll_31 : decode cX8_peelAll 31 = .ok (.iconst 1, 1) := by decide +kernel
theorem dX8_peelAll_32 : decode cX8_peelAll 32 = .ok (.aload_n 0, 1) := by decide +kernel
theorem dX8_peelAll_33 : decode cX8_peelAll 33 = .ok (.getfield 7, 3) := by decide +kernel
theorem dX8_peelAll_36 : decode cX8_peelAll 36 = .ok (.ishl, 1) := by decide +kernel
theorem dX8_peelAll_37 : decode cX8_peelAll 37 = .ok (.if_icmp .ge 86, 3) := by decide +kernel
theorem dX8_peelAll_40 : decode cX8_peelAll 40 = .ok (.aload_n 0, 1) := by decide +kernel
theorem dX8_peelAll_41 : decode cX8_peelAll 41 = .ok (.iload_n 1, 1) := by decide +kernel
theorem dX8_peelAll_42 : decode cX8_peelAll 42 = .ok (.invokevirtual 80, 3) := by decide +kernel
theorem dX8_peelAll_45 : decode cX8_peelAll 45 = .ok (.istore_n 2, 1) := by decide +kernel
theorem dX8_peelAll_46 : decode cX8_peelAll 46 = .ok (.aload_n 0, 1) := by decide +kernel
theorem dX8_peelAll_47 : decode cX8_peelAll 47 = .ok (.getfield 20, 3) := by decide +kernel
theorem dX8_peelAll_50 : decode cX8_peelAll 50 = .ok (.iload_n 1, 1) := by decide +kernel
theorem dX8_peelAll_51 : decode cX8_peelAll 51 = .ok (.iload_n 2, 1) := by decide +kernel
theorem dX8_peelAll_52 : decode cX8_peelAll 52 = .ok (.iastore, 1) := by decide +kernel
theorem dX8_peelAll_53 : decode cX8_peelAll 53 = .ok (.iconst 0, 1) := by decide +kernel
theorem dX8_peelAll_54 : decode cX8_peelAll 54 = .ok (.istore_n 3, 1) := by decide +kernel
theorem dX8_peelAll_55 : decode cX8_peelAll 55 = .ok (.iload_n 3, 1) := by decide +kernel
theorem dX8_peelAll_56 : decode cX8_peelAll 56 = .ok (.aload_n 0, 1) := by decide +kernel
theorem dX8_peelAll_57 : decode cX8_peelAll 57 = .ok (.getfield 7, 3) := by decide +kernel
theorem dX8_peelAll_60 : decode cX8_peelAll 60 = .ok (.if_icmp .ge 57, 3) := by decide +kernel
theorem dX8_peelAll_63 : decode cX8_peelAll 63 = .ok (.iconst 0, 1) := by decide +kernel
theorem dX8_peelAll_64 : decode cX8_peelAll 64 = .ok (.istore 4, 2) := by decide +kernel
theorem dX8_peelAll_66 : decode cX8_peelAll 66 = .ok (.iload 4, 2) := by decide +kernel
theorem dX8_peelAll_68 : decode cX8_peelAll 68 = .ok (.aload_n 0, 1) := by decide +kernel
theorem dX8_peelAll_69 : decode cX8_peelAll 69 = .ok (.getfield 7, 3) := by decide +kernel
theorem dX8_peelAll_72 : decode cX8_peelAll 72 = .ok (.if_icmp .ge 39, 3) := by decide +kernel
theorem dX8_peelAll_75 : decode cX8_peelAll 75 = .ok (.aload_n 0, 1) := by decide +kernel
theorem dX8_peelAll_76 : decode cX8_peelAll 76 = .ok (.getfield 17, 3) := by decide +kernel
theorem dX8_peelAll_79 : decode cX8_peelAll 79 = .ok (.bipush 6, 2) := by decide +kernel
theorem dX8_peelAll_81 : decode cX8_peelAll 81 = .ok (.iload_n 3, 1) := by decide +kernel
theorem dX8_peelAll_82 : decode cX8_peelAll 82 = .ok (.imul, 1) := by decide +kernel
theorem dX8_peelAll_83 : decode cX8_peelAll 83 = .ok (.iload 4, 2) := by decide +kernel
theorem dX8_peelAll_85 : decode cX8_peelAll 85 = .ok (.iadd, 1) := by decide +kernel
theorem dX8_peelAll_86 : decode cX8_peelAll 86 = .ok (.dup2, 1) := by decide +kernel
theorem dX8_peelAll_87 : decode cX8_peelAll 87 = .ok (.iaload, 1) := by decide +kernel
theorem dX8_peelAll_88 : decode cX8_peelAll 88 = .ok (.iload_n 1, 1) := by decide +kernel
theorem dX8_peelAll_89 : decode cX8_peelAll 89 = .ok (.iload_n 3, 1) := by decide +kernel
theorem dX8_peelAll_90 : decode cX8_peelAll 90 = .ok (.iload 4, 2) := by decide +kernel
theorem dX8_peelAll_92 : decode cX8_peelAll 92 = .ok (.invokestatic 77, 3) := by decide +kernel
theorem dX8_peelAll_95 : decode cX8_peelAll 95 = .ok (.ifCond .eq 7, 3) := by decide +kernel
theorem dX8_peelAll_98 : decode cX8_peelAll 98 = .ok (.iload_n 2, 1) := by decide +kernel
theorem dX8_peelAll_99 : decode cX8_peelAll 99 = .ok (.goto 4, 3) := by decide +kernel
theorem dX8_peelAll_102 : decode cX8_peelAll 102 = .ok (.iconst 0, 1) := by decide +kernel
theorem dX8_peelAll_103 : decode cX8_peelAll 103 = .ok (.isub, 1) := by decide +kernel
theorem dX8_peelAll_104 : decode cX8_peelAll 104 = .ok (.iastore, 1) := by decide +kernel
theorem dX8_peelAll_105 : decode cX8_peelAll 105 = .ok (.iinc 4 1, 3) := by decide +kernel
theorem dX8_peelAll_108 : decode cX8_peelAll 108 = .ok (.goto (-42), 3) := by decide +kernel
theorem dX8_peelAll_111 : decode cX8_peelAll 111 = .ok (.iinc 3 1, 3) := by decide +kernel
theorem dX8_peelAll_114 : decode cX8_peelAll 114 = .ok (.goto (-59), 3) := by decide +kernel
theorem dX8_peelAll_117 : decode cX8_peelAll 117 = .ok (.iinc 1 2, 3) := by decide +kernel
theorem dX8_peelAll_120 : decode cX8_peelAll 120 = .ok (.goto (-90), 3) := by decide +kernel
theorem dX8_peelAll_123 : decode cX8_peelAll 123 = .ok (.return_, 1) := by decide +kernel
theorem dX8_peel_0 : decode cX8_peel 0 = .ok (.aload_n 0, 1) := by decide +kernel
theorem dX8_peel_1 : decode cX8_peel 1 = .ok (.iload_n 1, 1) := by decide +kernel
theorem dX8_peel_2 : decode cX8_peel 2 = .ok (.invokevirtual 74, 3) := by decide +kernel
theorem dX8_peel_5 : decode cX8_peel 5 = .ok (.ifCond .ne 5, 3) := by decide +kernel
theorem dX8_peel_8 : decode cX8_peel 8 = .ok (.iconst (-1), 1) := by decide +kernel
theorem dX8_peel_9 : decode cX8_peel 9 = .ok (.ireturn, 1) := by decide +kernel
theorem dX8_peel_10 : decode cX8_peel 10 = .ok (.aload_n 0, 1) := by decide +kernel
theorem dX8_peel_11 : decode cX8_peel 11 = .ok (.invokevirtual 83, 3) := by decide +kernel
theorem dX8_peel_14 : decode cX8_peel 14 = .ok (.aload_n 0, 1) := by decide +kernel
theorem dX8_peel_15 : decode cX8_peel 15 = .ok (.getfield 20, 3) := by decide +kernel
theorem dX8_peel_18 : decode cX8_peel 18 = .ok (.iload_n 1, 1) := by decide +kernel
theorem dX8_peel_19 : decode cX8_peel 19 = .ok (.iaload, 1) := by decide +kernel
theorem dX8_peel_20 : decode cX8_peel 20 = .ok (.ireturn, 1) := by decide +kernel
theorem dX8_left_0 : decode cX8_left 0 = .ok (.aload_n 0, 1) := by decide +kernel
theorem dX8_left_1 : decode cX8_left 1 = .ok (.iload_n 1, 1) := by decide +kernel
theorem dX8_left_2 : decode cX8_left 2 = .ok (.invokevirtual 43, 3) := by decide +kernel
theorem dX8_left_5 : decode cX8_left 5 = .ok (.ifCond .eq 11, 3) := by decide +kernel
theorem dX8_left_8 : decode cX8_left 8 = .ok (.aload_n 0, 1) := by decide +kernel
theorem dX8_left_9 : decode cX8_left 9 = .ok (.iload_n 2, 1) := by decide +kernel
theorem dX8_left_10 : decode cX8_left 10 = .ok (.invokevirtual 43, 3) := by decide +kernel
theorem dX8_left_13 : decode cX8_left 13 = .ok (.ifCond .ne 5, 3) := by decide +kernel
theorem dX8_left_16 : decode cX8_left 16 = .ok (.iconst (-1), 1) := by decide +kernel
theorem dX8_left_17 : decode cX8_left 17 = .ok (.ireturn, 1) := by decide +kernel
theorem dX8_left_18 : decode cX8_left 18 = .ok (.aload_n 0, 1) := by decide +kernel
theorem dX8_left_19 : decode cX8_left 19 = .ok (.invokevirtual 83, 3) := by decide +kernel
theorem dX8_left_22 : decode cX8_left 22 = .ok (.aload_n 0, 1) := by decide +kernel
theorem dX8_left_23 : decode cX8_left 23 = .ok (.getfield 17, 3) := by decide +kernel
theorem dX8_left_26 : decode cX8_left 26 = .ok (.bipush 6, 2) := by decide +kernel
theorem dX8_left_28 : decode cX8_left 28 = .ok (.iload_n 1, 1) := by decide +kernel
theorem dX8_left_29 : decode cX8_left 29 = .ok (.imul, 1) := by decide +kernel
theorem dX8_left_30 : decode cX8_left 30 = .ok (.iload_n 2, 1) := by decide +kernel
theorem dX8_left_31 : decode cX8_left 31 = .ok (.iadd, 1) := by decide +kernel
theorem dX8_left_32 : decode cX8_left 32 = .ok (.iaload, 1) := by decide +kernel
theorem dX8_left_33 : decode cX8_left 33 = .ok (.ireturn, 1) := by decide +kernel
theorem dX8_isOrder_0 : decode cX8_isOrder 0 = .ok (.iconst 0, 1) := by decide +kernel
theorem dX8_isOrder_1 : decode cX8_isOrder 1 = .ok (.istore_n 2, 1) := by decide +kernel
theorem dX8_isOrder_2 : decode cX8_isOrder 2 = .ok (.iconst 0, 1) := by decide +kernel
theorem dX8_isOrder_3 : decode cX8_isOrder 3 = .ok (.istore_n 3, 1) := by decide +kernel
theorem dX8_isOrder_4 : decode cX8_isOrder 4 = .ok (.iload_n 3, 1) := by decide +kernel
theorem dX8_isOrder_5 : decode cX8_isOrder 5 = .ok (.aload_n 0, 1) := by decide +kernel
theorem dX8_isOrder_6 : decode cX8_isOrder 6 = .ok (.getfield 7, 3) := by decide +kernel
theorem dX8_isOrder_9 : decode cX8_isOrder 9 = .ok (.if_icmp .ge 22, 3) := by decide +kernel
theorem dX8_isOrder_12 : decode cX8_isOrder 12 = .ok (.iload_n 2, 1) := by decide +kernel
theorem dX8_isOrder_13 : decode cX8_isOrder 13 = .ok (.iconst 1, 1) := by decide +kernel
theorem dX8_isOrder_14 : decode cX8_isOrder 14 = .ok (.iload_n 1, 1) := by decide +kernel
theorem dX8_isOrder_15 : decode cX8_isOrder 15 = .ok (.iconst 3, 1) := by decide +kernel
theorem dX8_isOrder_16 : decode cX8_isOrder 16 = .ok (.iload_n 3, 1) := by decide +kernel
theorem dX8_isOrder_17 : decode cX8_isOrder 17 = .ok (.imul, 1) := by decide +kernel
theorem dX8_isOrder_18 : decode cX8_isOrder 18 = .ok (.ishr, 1) := by decide +kernel
theorem dX8_isOrder_19 : decode cX8_isOrder 19 = .ok (.bipush 7, 2) := by decide +kernel
theorem dX8_isOrder_21 : decode cX8_isOrder 21 = .ok (.iand, 1) := by decide +kernel
theorem dX8_isOrder_22 : decode cX8_isOrder 22 = .ok (.ishl, 1) := by decide +kernel
theorem dX8_isOrder_23 : decode cX8_isOrder 23 = .ok (.ior, 1) := by decide +kernel
theorem dX8_isOrder_24 : decode cX8_isOrder 24 = .ok (.istore_n 2, 1) := by decide +kernel
theorem dX8_isOrder_25 : decode cX8_isOrder 25 = .ok (.iinc 3 1, 3) := by decide +kernel
theorem dX8_isOrder_28 : decode cX8_isOrder 28 = .ok (.goto (-24), 3) := by decide +kernel
theorem dX8_isOrder_31 : decode cX8_isOrder 31 = .ok (.iload_n 1, 1) := by decide +kernel
theorem dX8_isOrder_32 : decode cX8_isOrder 32 = .ok (.ifCond .lt 30, 3) := by decide +kernel
theorem dX8_isOrder_35 : decode cX8_isOrder 35 = .ok (.iload_n 1, 1) := by decide +kernel
theorem dX8_isOrder_36 : decode cX8_isOrder 36 = .ok (.iconst 3, 1) := by decide +kernel
theorem dX8_isOrder_37 : decode cX8_isOrder 37 = .ok (.aload_n 0, 1) := by decide +kernel
theorem dX8_isOrder_38 : decode cX8_isOrder 38 = .ok (.getfield 7, 3) := by decide +kernel
theorem dX8_isOrder_41 : decode cX8_isOrder 41 = .ok (.imul, 1) := by decide +kernel
theorem dX8_isOrder_42 : decode cX8_isOrder 42 = .ok (.ishr, 1) := by decide +kernel
theorem dX8_isOrder_43 : decode cX8_isOrder 43 = .ok (.ifCond .ne 19, 3) := by decide +kernel
theorem dX8_isOrder_46 : decode cX8_isOrder 46 = .ok (.iload_n 2, 1) := by decide +kernel
theorem dX8_isOrder_47 : decode cX8_isOrder 47 = .ok (.iconst 1, 1) := by decide +kernel
theorem dX8_isOrder_48 : decode cX8_isOrder 48 = .ok (.aload_n 0, 1) := by decide +kernel
theorem dX8_isOrder_49 : decode cX8_isOrder 49 = .ok (.getfield 7, 3) := by decide +kernel
theorem dX8_isOrder_52 : decode cX8_isOrder 52 = .ok (.ishl, 1) := by decide +kernel
theorem dX8_isOrder_53 : decode cX8_isOrder 53 = .ok (.iconst 1, 1) := by decide +kernel
theorem dX8_isOrder_54 : decode cX8_isOrder 54 = .ok (.isub, 1) := by decide +kernel
theorem dX8_isOrder_55 : decode cX8_isOrder 55 = .ok (.if_icmp .ne 7, 3) := by decide +kernel
theorem dX8_isOrder_58 : decode cX8_isOrder 58 = .ok (.iconst 1, 1) := by decide +kernel
theorem dX8_isOrder_59 : decode cX8_isOrder 59 = .ok (.goto 4, 3) := by decide +kernel
theorem dX8_isOrder_62 : decode cX8_isOrder 62 = .ok (.iconst 0, 1) := by decide +kernel
theorem dX8_isOrder_63 : decode cX8_isOrder 63 = .ok (.ireturn, 1) := by decide +kernel
theorem dX8_lays_0 : decode cX8_lays 0 = .ok (.iconst 0, 1) := by decide +kernel
theorem dX8_lays_1 : decode cX8_lays 1 = .ok (.istore_n 2, 1) := by decide +kernel
theorem dX8_lays_2 : decode cX8_lays 2 = .ok (.iload_n 2, 1) := by decide +kernel
theorem dX8_lays_3 : decode cX8_lays 3 = .ok (.aload_n 0, 1) := by decide +kernel
theorem dX8_lays_4 : decode cX8_lays 4 = .ok (.getfield 7, 3) := by decide +kernel
theorem dX8_lays_7 : decode cX8_lays 7 = .ok (.if_icmp .ge 96, 3) := by decide +kernel
theorem dX8_lays_10 : decode cX8_lays 10 = .ok (.iload_n 1, 1) := by decide +kernel
theorem dX8_lays_11 : decode cX8_lays 11 = .ok (.iconst 3, 1) := by decide +kernel
theorem dX8_lays_12 : decode cX8_lays 12 = .ok (.iload_n 2, 1) := by decide +kernel
theorem dX8_lays_13 : decode cX8_lays 13 = .ok (.imul, 1) := by decide +kernel
theorem dX8_lays_14 : decode cX8_lays 14 = .ok (.ishr, 1) := by decide +kernel
theorem dX8_lays_15 : decode cX8_lays 15 = .ok (.bipush 7, 2) := by decide +kernel
theorem dX8_lays_17 : decode cX8_lays 17 = .ok (.iand, 1) := by decide +kernel
theorem dX8_lays_18 : decode cX8_lays 18 = .ok (.istore_n 3, 1) := by decide +kernel
theorem dX8_lays_19 : decode cX8_lays 19 = .ok (.aload_n 0, 1) := by decide +kernel
theorem dX8_lays_20 : decode cX8_lays 20 = .ok (.getfield 33, 3) := by decide +kernel
theorem dX8_lays_23 : decode cX8_lays 23 = .ok (.iload_n 3, 1) := by decide +kernel
theorem dX8_lays_24 : decode cX8_lays 24 = .ok (.iconst 0, 1) := by decide +kernel
theorem dX8_lays_25 : decode cX8_lays 25 = .ok (.iastore, 1) := by decide +kernel
theorem dX8_lays_26 : decode cX8_lays 26 = .ok (.iconst 0, 1) := by decide +kernel
theorem dX8_lays_27 : decode cX8_lays 27 = .ok (.istore 4, 2) := by decide +kernel
theorem dX8_lays_29 : decode cX8_lays 29 = .ok (.iload 4, 2) := by decide +kernel
theorem dX8_lays_31 : decode cX8_lays 31 = .ok (.iload_n 2, 1) := by decide +kernel
theorem dX8_lays_32 : decode cX8_lays 32 = .ok (.if_icmp .ge 65, 3) := by decide +kernel
theorem dX8_lays_35 : decode cX8_lays 35 = .ok (.iload_n 1, 1) := by decide +kernel
theorem dX8_lays_36 : decode cX8_lays 36 = .ok (.iconst 3, 1) := by decide +kernel
theorem dX8_lays_37 : decode cX8_lays 37 = .ok (.iload 4, 2) := by decide +kernel
theorem dX8_lays_39 : decode cX8_lays 39 = .ok (.imul, 1) := by decide +kernel
theorem dX8_lays_40 : decode cX8_lays 40 = .ok (.ishr, 1) := by decide +kernel
theorem dX8_lays_41 : decode cX8_lays 41 = .ok (.bipush 7, 2) := by decide +kernel
theorem dX8_lays_43 : decode cX8_lays 43 = .ok (.iand, 1) := by decide +kernel
theorem dX8_lays_44 : decode cX8_lays 44 = .ok (.istore 5, 2) := by decide +kernel
theorem dX8_lays_46 : decode cX8_lays 46 = .ok (.aload_n 0, 1) := by decide +kernel
theorem dX8_lays_47 : decode cX8_lays 47 = .ok (.getfield 33, 3) := by decide +kernel
theorem dX8_lays_50 : decode cX8_lays 50 = .ok (.iload 5, 2) := by decide +kernel
theorem dX8_lays_52 : decode cX8_lays 52 = .ok (.iaload, 1) := by decide +kernel
theorem dX8_lays_53 : decode cX8_lays 53 = .ok (.aload_n 0, 1) := by decide +kernel
theorem dX8_lays_54 : decode cX8_lays 54 = .ok (.iload 5, 2) := by decide +kernel
theorem dX8_lays_56 : decode cX8_lays 56 = .ok (.iload_n 3, 1) := by decide +kernel
theorem dX8_lays_57 : decode cX8_lays 57 = .ok (.invokevirtual 47, 3) := by decide +kernel
theorem dX8_lays_60 : decode cX8_lays 60 = .ok (.iadd, 1) := by decide +kernel
theorem dX8_lays_61 : decode cX8_lays 61 = .ok (.istore 6, 2) := by decide +kernel
theorem dX8_lays_63 : decode cX8_lays 63 = .ok (.aload_n 0, 1) := by decide +kernel
theorem dX8_lays_64 : decode cX8_lays 64 = .ok (.getfield 33, 3) := by decide +kernel
theorem dX8_lays_67 : decode cX8_lays 67 = .ok (.iload_n 3, 1) := by decide +kernel
theorem dX8_lays_68 : decode cX8_lays 68 = .ok (.iload 6, 2) := by decide +kernel
theorem dX8_lays_70 : decode cX8_lays 70 = .ok (.aload_n 0, 1) := by decide +kernel
theorem dX8_lays_71 : decode cX8_lays 71 = .ok (.getfield 33, 3) := by decide +kernel
theorem dX8_lays_74 : decode cX8_lays 74 = .ok (.iload_n 3, 1) := by decide +kernel
theorem dX8_lays_75 : decode cX8_lays 75 = .ok (.iaload, 1) := by decide +kernel
theorem dX8_lays_76 : decode cX8_lays 76 = .ok (.if_icmp .le 8, 3) := by decide +kernel
theorem dX8_lays_79 : decode cX8_lays 79 = .ok (.iload 6, 2) := by decide +kernel
theorem dX8_lays_81 : decode cX8_lays 81 = .ok (.goto 9, 3) := by decide +kernel
theorem dX8_lays_84 : decode cX8_lays 84 = .ok (.aload_n 0, 1) := by decide +kernel
theorem dX8_lays_85 : decode cX8_lays 85 = .ok (.getfield 33, 3) := by decide +kernel
theorem dX8_lays_88 : decode cX8_lays 88 = .ok (.iload_n 3, 1) := by decide +kernel
theorem dX8_lays_89 : decode cX8_lays 89 = .ok (.iaload, 1) := by decide +kernel
theorem dX8_lays_90 : decode cX8_lays 90 = .ok (.iastore, 1) := by decide +kernel
end
section
theorem dX8_lays_91 : decode cX8_lays 91 = .ok (.iinc 4 1, 3) := by decide +kernel
theorem dX8_lays_94 : decode cX8_lays 94 = .ok (.goto (-65), 3) := by decide +kernel
theorem dX8_lays_97 : decode cX8_lays 97 = .ok (.iinc 2 1, 3) := by decide +kernel
theorem dX8_lays_100 : decode cX8_lays 100 = .ok (.goto (-98), 3) := by decide +kernel
theorem dX8_lays_103 : decode cX8_lays 103 = .ok (.aload_n 0, 1) := by decide +kernel
theorem dX8_lays_104 : decode cX8_lays 104 = .ok (.iconst 0, 1) := by decide +kernel
theorem dX8_lays_105 : decode cX8_lays 105 = .ok (.putfield 86, 3) := by decide +kernel
theorem dX8_lays_108 : decode cX8_lays 108 = .ok (.aload_n 0, 1) := by decide +kernel
theorem dX8_lays_109 : decode cX8_lays 109 = .ok (.iconst 1, 1) := by decide +kernel
theorem dX8_lays_110 : decode cX8_lays 110 = .ok (.putfield 89, 3) := by decide +kernel
theorem dX8_lays_113 : decode cX8_lays 113 = .ok (.iconst 0, 1) := by decide +kernel
theorem dX8_lays_114 : decode cX8_lays 114 = .ok (.istore_n 2, 1) := by decide +kernel
theorem dX8_lays_115 : decode cX8_lays 115 = .ok (.iload_n 2, 1) := by decide +kernel
theorem dX8_lays_116 : decode cX8_lays 116 = .ok (.aload_n 0, 1) := by decide +kernel
theorem dX8_lays_117 : decode cX8_lays 117 = .ok (.getfield 7, 3) := by decide +kernel
theorem dX8_lays_120 : decode cX8_lays 120 = .ok (.if_icmp .ge 98, 3) := by decide +kernel
theorem dX8_lays_123 : decode cX8_lays 123 = .ok (.iconst 0, 1) := by decide +kernel
theorem dX8_lays_124 : decode cX8_lays 124 = .ok (.istore_n 3, 1) := by decide +kernel
theorem dX8_lays_125 : decode cX8_lays 125 = .ok (.iload_n 3, 1) := by decide +kernel
theorem dX8_lays_126 : decode cX8_lays 126 = .ok (.iload_n 2, 1) := by decide +kernel
theorem dX8_lays_127 : decode cX8_lays 127 = .ok (.if_icmp .ge 85, 3) := by decide +kernel
theorem dX8_lays_130 : decode cX8_lays 130 = .ok (.aload_n 0, 1) := by decide +kernel
theorem dX8_lays_131 : decode cX8_lays 131 = .ok (.getfield 33, 3) := by decide +kernel
theorem dX8_lays_134 : decode cX8_lays 134 = .ok (.iload_n 2, 1) := by decide +kernel
theorem dX8_lays_135 : decode cX8_lays 135 = .ok (.iaload, 1) := by decide +kernel
theorem dX8_lays_136 : decode cX8_lays 136 = .ok (.aload_n 0, 1) := by decide +kernel
theorem dX8_lays_137 : decode cX8_lays 137 = .ok (.getfield 33, 3) := by decide +kernel
theorem dX8_lays_140 : decode cX8_lays 140 = .ok (.iload_n 3, 1) := by decide +kernel
theorem dX8_lays_141 : decode cX8_lays 141 = .ok (.iaload, 1) := by decide +kernel
theorem dX8_lays_142 : decode cX8_lays 142 = .ok (.isub, 1) := by decide +kernel
theorem dX8_lays_143 : decode cX8_lays 143 = .ok (.istore 4, 2) := by decide +kernel
theorem dX8_lays_145 : decode cX8_lays 145 = .ok (.iload 4, 2) := by decide +kernel
theorem dX8_lays_147 : decode cX8_lays 147 = .ok (.ifCond .ge 9, 3) := by decide +kernel
theorem dX8_lays_150 : decode cX8_lays 150 = .ok (.iload 4, 2) := by decide +kernel
theorem dX8_lays_152 : decode cX8_lays 152 = .ok (.ineg, 1) := by decide +kernel
theorem dX8_lays_153 : decode cX8_lays 153 = .ok (.goto 5, 3) := by decide +kernel
theorem dX8_lays_156 : decode cX8_lays 156 = .ok (.iload 4, 2) := by decide +kernel
theorem dX8_lays_158 : decode cX8_lays 158 = .ok (.istore 4, 2) := by decide +kernel
theorem dX8_lays_160 : decode cX8_lays 160 = .ok (.aload_n 0, 1) := by decide +kernel
theorem dX8_lays_161 : decode cX8_lays 161 = .ok (.iload_n 2, 1) := by decide +kernel
theorem dX8_lays_162 : decode cX8_lays 162 = .ok (.iload_n 3, 1) := by decide +kernel
theorem dX8_lays_163 : decode cX8_lays 163 = .ok (.invokevirtual 47, 3) := by decide +kernel
theorem dX8_lays_166 : decode cX8_lays 166 = .ok (.ifCond .le 40, 3) := by decide +kernel
theorem dX8_lays_169 : decode cX8_lays 169 = .ok (.iload 4, 2) := by decide +kernel
theorem dX8_lays_171 : decode cX8_lays 171 = .ok (.aload_n 0, 1) := by decide +kernel
theorem dX8_lays_172 : decode cX8_lays 172 = .ok (.getfield 89, 3) := by decide +kernel
theorem dX8_lays_175 : decode cX8_lays 175 = .ok (.imul, 1) := by decide +kernel
theorem dX8_lays_176 : decode cX8_lays 176 = .ok (.aload_n 0, 1) := by decide +kernel
theorem dX8_lays_177 : decode cX8_lays 177 = .ok (.getfield 86, 3) := by decide +kernel
theorem dX8_lays_180 : decode cX8_lays 180 = .ok (.aload_n 0, 1) := by decide +kernel
theorem dX8_lays_181 : decode cX8_lays 181 = .ok (.iload_n 2, 1) := by decide +kernel
theorem dX8_lays_182 : decode cX8_lays 182 = .ok (.iload_n 3, 1) := by decide +kernel
theorem dX8_lays_183 : decode cX8_lays 183 = .ok (.invokevirtual 47, 3) := by decide +kernel
theorem dX8_lays_186 : decode cX8_lays 186 = .ok (.imul, 1) := by decide +kernel
theorem dX8_lays_187 : decode cX8_lays 187 = .ok (.if_icmp .le 19, 3) := by decide +kernel
theorem dX8_lays_190 : decode cX8_lays 190 = .ok (.aload_n 0, 1) := by decide +kernel
theorem dX8_lays_191 : decode cX8_lays 191 = .ok (.iload 4, 2) := by decide +kernel
theorem dX8_lays_193 : decode cX8_lays 193 = .ok (.putfield 86, 3) := by decide +kernel
theorem dX8_lays_196 : decode cX8_lays 196 = .ok (.aload_n 0, 1) := by decide +kernel
theorem dX8_lays_197 : decode cX8_lays 197 = .ok (.aload_n 0, 1) := by decide +kernel
theorem dX8_lays_198 : decode cX8_lays 198 = .ok (.iload_n 2, 1) := by decide +kernel
theorem dX8_lays_199 : decode cX8_lays 199 = .ok (.iload_n 3, 1) := by decide +kernel
theorem dX8_lays_200 : decode cX8_lays 200 = .ok (.invokevirtual 47, 3) := by decide +kernel
theorem dX8_lays_203 : decode cX8_lays 203 = .ok (.putfield 89, 3) := by decide +kernel
theorem dX8_lays_206 : decode cX8_lays 206 = .ok (.iinc 3 1, 3) := by decide +kernel
theorem dX8_lays_209 : decode cX8_lays 209 = .ok (.goto (-84), 3) := by decide +kernel
theorem dX8_lays_212 : decode cX8_lays 212 = .ok (.iinc 2 1, 3) := by decide +kernel
theorem dX8_lays_215 : decode cX8_lays 215 = .ok (.goto (-100), 3) := by decide +kernel
theorem dX8_lays_218 : decode cX8_lays 218 = .ok (.return_, 1) := by decide +kernel
theorem dX8_common_0 : decode cX8_common 0 = .ok (.iload_n 0, 1) := by decide +kernel
theorem dX8_common_1 : decode cX8_common 1 = .ok (.istore_n 2, 1) := by decide +kernel
theorem dX8_common_2 : decode cX8_common 2 = .ok (.iload_n 1, 1) := by decide +kernel
theorem dX8_common_3 : decode cX8_common 3 = .ok (.istore_n 3, 1) := by decide +kernel
theorem dX8_common_4 : decode cX8_common 4 = .ok (.iload_n 3, 1) := by decide +kernel
theorem dX8_common_5 : decode cX8_common 5 = .ok (.ifCond .eq 16, 3) := by decide +kernel
theorem dX8_common_8 : decode cX8_common 8 = .ok (.iload_n 2, 1) := by decide +kernel
theorem dX8_common_9 : decode cX8_common 9 = .ok (.iload_n 3, 1) := by decide +kernel
theorem dX8_common_10 : decode cX8_common 10 = .ok (.irem, 1) := by decide +kernel
theorem dX8_common_11 : decode cX8_common 11 = .ok (.istore 4, 2) := by decide +kernel
theorem dX8_common_13 : decode cX8_common 13 = .ok (.iload_n 3, 1) := by decide +kernel
theorem dX8_common_14 : decode cX8_common 14 = .ok (.istore_n 2, 1) := by decide +kernel
theorem dX8_common_15 : decode cX8_common 15 = .ok (.iload 4, 2) := by decide +kernel
theorem dX8_common_17 : decode cX8_common 17 = .ok (.istore_n 3, 1) := by decide +kernel
theorem dX8_common_18 : decode cX8_common 18 = .ok (.goto (-14), 3) := by decide +kernel
theorem dX8_common_21 : decode cX8_common 21 = .ok (.iload_n 2, 1) := by decide +kernel
theorem dX8_common_22 : decode cX8_common 22 = .ok (.ireturn, 1) := by decide +kernel
theorem dX8_stretch_0 : decode cX8_stretch 0 = .ok (.iload_n 1, 1) := by decide +kernel
theorem dX8_stretch_1 : decode cX8_stretch 1 = .ok (.iconst 1, 1) := by decide +kernel
theorem dX8_stretch_2 : decode cX8_stretch 2 = .ok (.if_icmp .ne 10, 3) := by decide +kernel
theorem dX8_stretch_5 : decode cX8_stretch 5 = .ok (.aload_n 0, 1) := by decide +kernel
theorem dX8_stretch_6 : decode cX8_stretch 6 = .ok (.getfield 86, 3) := by decide +kernel
theorem dX8_stretch_9 : decode cX8_stretch 9 = .ok (.goto 7, 3) := by decide +kernel
theorem dX8_stretch_12 : decode cX8_stretch 12 = .ok (.aload_n 0, 1) := by decide +kernel
theorem dX8_stretch_13 : decode cX8_stretch 13 = .ok (.getfield 89, 3) := by decide +kernel
theorem dX8_stretch_16 : decode cX8_stretch 16 = .ok (.aload_n 0, 1) := by decide +kernel
theorem dX8_stretch_17 : decode cX8_stretch 17 = .ok (.getfield 86, 3) := by decide +kernel
theorem dX8_stretch_20 : decode cX8_stretch 20 = .ok (.aload_n 0, 1) := by decide +kernel
theorem dX8_stretch_21 : decode cX8_stretch 21 = .ok (.getfield 89, 3) := by decide +kernel
theorem dX8_stretch_24 : decode cX8_stretch 24 = .ok (.invokestatic 92, 3) := by decide +kernel
theorem dX8_stretch_27 : decode cX8_stretch 27 = .ok (.idiv, 1) := by decide +kernel
theorem dX8_stretch_28 : decode cX8_stretch 28 = .ok (.ireturn, 1) := by decide +kernel
theorem dX8_line_0 : decode cX8_line 0 = .ok (.aload_n 0, 1) := by decide +kernel
theorem dX8_line_1 : decode cX8_line 1 = .ok (.iload_n 1, 1) := by decide +kernel
theorem dX8_line_2 : decode cX8_line 2 = .ok (.invokevirtual 95, 3) := by decide +kernel
theorem dX8_line_5 : decode cX8_line 5 = .ok (.ifCond .eq 24, 3) := by decide +kernel
theorem dX8_line_8 : decode cX8_line 8 = .ok (.iload_n 3, 1) := by decide +kernel
theorem dX8_line_9 : decode cX8_line 9 = .ok (.iconst 0, 1) := by decide +kernel
theorem dX8_line_10 : decode cX8_line 10 = .ok (.iconst 2, 1) := by decide +kernel
theorem dX8_line_11 : decode cX8_line 11 = .ok (.invokestatic 39, 3) := by decide +kernel
theorem dX8_line_14 : decode cX8_line 14 = .ok (.ifCond .eq 15, 3) := by decide +kernel
theorem dX8_line_17 : decode cX8_line 17 = .ok (.iload_n 3, 1) := by decide +kernel
theorem dX8_line_18 : decode cX8_line 18 = .ok (.ifCond .ne 13, 3) := by decide +kernel
theorem dX8_line_21 : decode cX8_line 21 = .ok (.aload_n 0, 1) := by decide +kernel
theorem dX8_line_22 : decode cX8_line 22 = .ok (.iload_n 2, 1) := by decide +kernel
theorem dX8_line_23 : decode cX8_line 23 = .ok (.invokevirtual 43, 3) := by decide +kernel
theorem dX8_line_26 : decode cX8_line 26 = .ok (.ifCond .ne 5, 3) := by decide +kernel
theorem dX8_line_29 : decode cX8_line 29 = .ok (.iconst (-1), 1) := by decide +kernel
theorem dX8_line_30 : decode cX8_line 30 = .ok (.ireturn, 1) := by decide +kernel
theorem dX8_line_31 : decode cX8_line 31 = .ok (.aload_n 0, 1) := by decide +kernel
theorem dX8_line_32 : decode cX8_line 32 = .ok (.iload_n 1, 1) := by decide +kernel
theorem dX8_line_33 : decode cX8_line 33 = .ok (.invokevirtual 98, 3) := by decide +kernel
theorem dX8_line_36 : decode cX8_line 36 = .ok (.iload_n 3, 1) := by decide +kernel
theorem dX8_line_37 : decode cX8_line 37 = .ok (.ifCond .ne 12, 3) := by decide +kernel
theorem dX8_line_40 : decode cX8_line 40 = .ok (.aload_n 0, 1) := by decide +kernel
theorem dX8_line_41 : decode cX8_line 41 = .ok (.getfield 33, 3) := by decide +kernel
theorem dX8_line_44 : decode cX8_line 44 = .ok (.iload_n 2, 1) := by decide +kernel
theorem dX8_line_45 : decode cX8_line 45 = .ok (.iaload, 1) := by decide +kernel
theorem dX8_line_46 : decode cX8_line 46 = .ok (.goto 8, 3) := by decide +kernel
theorem dX8_line_49 : decode cX8_line 49 = .ok (.aload_n 0, 1) := by decide +kernel
theorem dX8_line_50 : decode cX8_line 50 = .ok (.iload_n 3, 1) := by decide +kernel
theorem dX8_line_51 : decode cX8_line 51 = .ok (.invokevirtual 102, 3) := by decide +kernel
theorem dX8_line_54 : decode cX8_line 54 = .ok (.ireturn, 1) := by decide +kernel
theorem dX8_isLower_0 : decode cX8_isLower 0 = .ok (.iconst 0, 1) := by decide +kernel
theorem dX8_isLower_1 : decode cX8_isLower 1 = .ok (.istore_n 2, 1) := by decide +kernel
theorem dX8_isLower_2 : decode cX8_isLower 2 = .ok (.iload_n 0, 1) := by decide +kernel
theorem dX8_isLower_3 : decode cX8_isLower 3 = .ok (.iconst 3, 1) := by decide +kernel
theorem dX8_isLower_4 : decode cX8_isLower 4 = .ok (.iload_n 2, 1) := by decide +kernel
theorem dX8_isLower_5 : decode cX8_isLower 5 = .ok (.imul, 1) := by decide +kernel
theorem dX8_isLower_6 : decode cX8_isLower 6 = .ok (.ishr, 1) := by decide +kernel
theorem dX8_isLower_7 : decode cX8_isLower 7 = .ok (.bipush 7, 2) := by decide +kernel
theorem dX8_isLower_9 : decode cX8_isLower 9 = .ok (.iand, 1) := by decide +kernel
theorem dX8_isLower_10 : decode cX8_isLower 10 = .ok (.iload_n 1, 1) := by decide +kernel
theorem dX8_isLower_11 : decode cX8_isLower 11 = .ok (.iconst 3, 1) := by decide +kernel
theorem dX8_isLower_12 : decode cX8_isLower 12 = .ok (.iload_n 2, 1) := by decide +kernel
theorem dX8_isLower_13 : decode cX8_isLower 13 = .ok (.imul, 1) := by decide +kernel
theorem dX8_isLower_14 : decode cX8_isLower 14 = .ok (.ishr, 1) := by decide +kernel
theorem dX8_isLower_15 : decode cX8_isLower 15 = .ok (.bipush 7, 2) := by decide +kernel
theorem dX8_isLower_17 : decode cX8_isLower 17 = .ok (.iand, 1) := by decide +kernel
theorem dX8_isLower_18 : decode cX8_isLower 18 = .ok (.if_icmp .ne 9, 3) := by decide +kernel
theorem dX8_isLower_21 : decode cX8_isLower 21 = .ok (.iinc 2 1, 3) := by decide +kernel
theorem dX8_isLower_24 : decode cX8_isLower 24 = .ok (.goto (-22), 3) := by decide +kernel
theorem dX8_isLower_27 : decode cX8_isLower 27 = .ok (.iload_n 0, 1) := by decide +kernel
theorem dX8_isLower_28 : decode cX8_isLower 28 = .ok (.iconst 3, 1) := by decide +kernel
theorem dX8_isLower_29 : decode cX8_isLower 29 = .ok (.iload_n 2, 1) := by decide +kernel
theorem dX8_isLower_30 : decode cX8_isLower 30 = .ok (.imul, 1) := by decide +kernel
theorem dX8_isLower_31 : decode cX8_isLower 31 = .ok (.ishr, 1) := by decide +kernel
theorem dX8_isLower_32 : decode cX8_isLower 32 = .ok (.bipush 7, 2) := by decide +kernel
theorem dX8_isLower_34 : decode cX8_isLower 34 = .ok (.iand, 1) := by decide +kernel
theorem dX8_isLower_35 : decode cX8_isLower 35 = .ok (.iload_n 1, 1) := by decide +kernel
theorem dX8_isLower_36 : decode cX8_isLower 36 = .ok (.iconst 3, 1) := by decide +kernel
theorem dX8_isLower_37 : decode cX8_isLower 37 = .ok (.iload_n 2, 1) := by decide +kernel
theorem dX8_isLower_38 : decode cX8_isLower 38 = .ok (.imul, 1) := by decide +kernel
theorem dX8_isLower_39 : decode cX8_isLower 39 = .ok (.ishr, 1) := by decide +kernel
theorem dX8_isLower_40 : decode cX8_isLower 40 = .ok (.bipush 7, 2) := by decide +kernel
theorem dX8_isLower_42 : decode cX8_isLower 42 = .ok (.iand, 1) := by decide +kernel
theorem dX8_isLower_43 : decode cX8_isLower 43 = .ok (.if_icmp .ge 7, 3) := by decide +kernel
theorem dX8_isLower_46 : decode cX8_isLower 46 = .ok (.iconst 1, 1) := by decide +kernel
theorem dX8_isLower_47 : decode cX8_isLower 47 = .ok (.goto 4, 3) := by decide +kernel
theorem dX8_isLower_50 : decode cX8_isLower 50 = .ok (.iconst 0, 1) := by decide +kernel
theorem dX8_isLower_51 : decode cX8_isLower 51 = .ok (.ireturn, 1) := by decide +kernel
theorem dX8_best_0 : decode cX8_best 0 = .ok (.iload_n 1, 1) := by decide +kernel
theorem dX8_best_1 : decode cX8_best 1 = .ok (.iconst 0, 1) := by decide +kernel
theorem dX8_best_2 : decode cX8_best 2 = .ok (.iconst 2, 1) := by decide +kernel
theorem dX8_best_3 : decode cX8_best 3 = .ok (.invokestatic 39, 3) := by decide +kernel
theorem dX8_best_6 : decode cX8_best 6 = .ok (.ifCond .ne 5, 3) := by decide +kernel
theorem dX8_best_9 : decode cX8_best 9 = .ok (.iconst (-1), 1) := by decide +kernel
theorem dX8_best_10 : decode cX8_best 10 = .ok (.ireturn, 1) := by decide +kernel
theorem dX8_best_11 : decode cX8_best 11 = .ok (.iconst (-1), 1) := by decide +kernel
theorem dX8_best_12 : decode cX8_best 12 = .ok (.istore_n 2, 1) := by decide +kernel
theorem dX8_best_13 : decode cX8_best 13 = .ok (.iconst 0, 1) := by decide +kernel
theorem dX8_best_14 : decode cX8_best 14 = .ok (.istore_n 3, 1) := by decide +kernel
theorem dX8_best_15 : decode cX8_best 15 = .ok (.iconst 1, 1) := by decide +kernel
theorem dX8_best_16 : decode cX8_best 16 = .ok (.istore 4, 2) := by decide +kernel
theorem dX8_best_18 : decode cX8_best 18 = .ok (.iconst 0, 1) := by decide +kernel
theorem dX8_best_19 : decode cX8_best 19 = .ok (.istore 5, 2) := by decide +kernel
theorem dX8_best_21 : decode cX8_best 21 = .ok (.iload 5, 2) := by decide +kernel
theorem dX8_best_23 : decode cX8_best 23 = .ok (.iconst 1, 1) := by decide +kernel
theorem dX8_best_24 : decode cX8_best 24 = .ok (.iconst 3, 1) := by decide +kernel
theorem dX8_best_25 : decode cX8_best 25 = .ok (.aload_n 0, 1) := by decide +kernel
theorem dX8_best_26 : decode cX8_best 26 = .ok (.getfield 7, 3) := by decide +kernel
theorem dX8_best_29 : decode cX8_best 29 = .ok (.imul, 1) := by decide +kernel
theorem dX8_best_30 : decode cX8_best 30 = .ok (.ishl, 1) := by decide +kernel
theorem dX8_best_31 : decode cX8_best 31 = .ok (.if_icmp .ge 77, 3) := by decide +kernel
theorem dX8_best_34 : decode cX8_best 34 = .ok (.aload_n 0, 1) := by decide +kernel
theorem dX8_best_35 : decode cX8_best 35 = .ok (.iload 5, 2) := by decide +kernel
theorem dX8_best_37 : decode cX8_best 37 = .ok (.invokevirtual 95, 3) := by decide +kernel
theorem dX8_best_40 : decode cX8_best 40 = .ok (.ifCond .eq 62, 3) := by decide +kernel
theorem dX8_best_43 : decode cX8_best 43 = .ok (.aload_n 0, 1) := by decide +kernel
theorem dX8_best_44 : decode cX8_best 44 = .ok (.iload 5, 2) := by decide +kernel
theorem dX8_best_46 : decode cX8_best 46 = .ok (.invokevirtual 98, 3) := by decide +kernel
theorem dX8_best_49 : decode cX8_best 49 = .ok (.aload_n 0, 1) := by decide +kernel
theorem dX8_best_50 : decode cX8_best 50 = .ok (.getfield 86, 3) := by decide +kernel
theorem dX8_best_53 : decode cX8_best 53 = .ok (.iload 4, 2) := by decide +kernel
theorem dX8_best_55 : decode cX8_best 55 = .ok (.imul, 1) := by decide +kernel
theorem dX8_best_56 : decode cX8_best 56 = .ok (.iload_n 3, 1) := by decide +kernel
theorem dX8_best_57 : decode cX8_best 57 = .ok (.aload_n 0, 1) := by decide +kernel
theorem dX8_best_58 : decode cX8_best 58 = .ok (.getfield 89, 3) := by decide +kernel
theorem dX8_best_61 : decode cX8_best 61 = .ok (.imul, 1) := by decide +kernel
theorem dX8_best_62 : decode cX8_best 62 = .ok (.isub, 1) := by decide +kernel
theorem dX8_best_63 : decode cX8_best 63 = .ok (.istore 6, 2) := by decide +kernel
theorem dX8_best_65 : decode cX8_best 65 = .ok (.iload_n 2, 1) := by decide +kernel
theorem dX8_best_66 : decode cX8_best 66 = .ok (.ifCond .lt 22, 3) := by decide +kernel
theorem dX8_best_69 : decode cX8_best 69 = .ok (.iload 6, 2) := by decide +kernel
theorem dX8_best_71 : decode cX8_best 71 = .ok (.ifCond .lt 17, 3) := by decide +kernel
theorem dX8_best_74 : decode cX8_best 74 = .ok (.iload 6, 2) := by decide +kernel
theorem dX8_best_76 : decode cX8_best 76 = .ok (.ifCond .ne 26, 3) := by decide +kernel
theorem dX8_best_79 : decode cX8_best 79 = .ok (.iload 5, 2) := by decide +kernel
theorem dX8_best_81 : decode cX8_best 81 = .ok (.iload_n 2, 1) := by decide +kernel
theorem dX8_best_82 : decode cX8_best 82 = .ok (.invokestatic 105, 3) := by decide +kernel
theorem dX8_best_85 : decode cX8_best 85 = .ok (.ifCond .eq 17, 3) := by decide +kernel
theorem dX8_best_88 : decode cX8_best 88 = .ok (.iload 5, 2) := by decide +kernel
theorem dX8_best_90 : decode cX8_best 90 = .ok (.istore_n 2, 1) := by decide +kernel
theorem dX8_best_91 : decode cX8_best 91 = .ok (.aload_n 0, 1) := by decide +kernel
theorem dX8_best_92 : decode cX8_best 92 = .ok (.getfield 86, 3) := by decide +kernel
theorem dX8_best_95 : decode cX8_best 95 = .ok (.istore_n 3, 1) := by decide +kernel
theorem dX8_best_96 : decode cX8_best 96 = .ok (.aload_n 0, 1) := by decide +kernel
theorem dX8_best_97 : decode cX8_best 97 = .ok (.getfield 89, 3) := by decide +kernel
theorem dX8_best_100 : decode cX8_best 100 = .ok (.istore 4, 2) := by decide +kernel
theorem dX8_best_102 : decode cX8_best 102 = .ok (.iinc 5 1, 3) := by decide +kernel
theorem dX8_best_105 : decode cX8_best 105 = .ok (.goto (-84), 3) := by decide +kernel
theorem dX8_best_108 : decode cX8_best 108 = .ok (.aload_n 0, 1) := by decide +kernel
theorem dX8_best_109 : decode cX8_best 109 = .ok (.iload_n 2, 1) := by decide +kernel
theorem dX8_best_110 : decode cX8_best 110 = .ok (.invokevirtual 98, 3) := by decide +kernel
theorem dX8_best_113 : decode cX8_best 113 = .ok (.iload_n 1, 1) := by decide +kernel
theorem dX8_best_114 : decode cX8_best 114 = .ok (.ifCond .ne 7, 3) := by decide +kernel
theorem dX8_best_117 : decode cX8_best 117 = .ok (.iload_n 2, 1) := by decide +kernel
theorem dX8_best_118 : decode cX8_best 118 = .ok (.goto 8, 3) := by decide +kernel
theorem dX8_best_121 : decode cX8_best 121 = .ok (.aload_n 0, 1) := by decide +kernel
theorem dX8_best_122 : decode cX8_best 122 = .ok (.iload_n 1, 1) := by decide +kernel
theorem dX8_best_123 : decode cX8_best 123 = .ok (.invokevirtual 102, 3) := by decide +kernel
theorem dX8_best_126 : decode cX8_best 126 = .ok (.ireturn, 1) := by decide +kernel
theorem dX8_worthOf_0 : decode cX8_worthOf 0 = .ok (.iconst 0, 1) := by decide +kernel
theorem dX8_worthOf_1 : decode cX8_worthOf 1 = .ok (.istore_n 3, 1) := by decide +kernel
theorem dX8_worthOf_2 : decode cX8_worthOf 2 = .ok (.iconst 0, 1) := by decide +kernel
theorem dX8_worthOf_3 : decode cX8_worthOf 3 = .ok (.istore 4, 2) := by decide +kernel
theorem dX8_worthOf_5 : decode cX8_worthOf 5 = .ok (.iconst 0, 1) := by decide +kernel
theorem dX8_worthOf_6 : decode cX8_worthOf 6 = .ok (.istore 5, 2) := by decide +kernel
theorem dX8_worthOf_8 : decode cX8_worthOf 8 = .ok (.iload 5, 2) := by decide +kernel
theorem dX8_worthOf_10 : decode cX8_worthOf 10 = .ok (.aload_n 0, 1) := by decide +kernel
theorem dX8_worthOf_11 : decode cX8_worthOf 11 = .ok (.getfield 7, 3) := by decide +kernel
theorem dX8_worthOf_14 : decode cX8_worthOf 14 = .ok (.if_icmp .ge 90, 3) := by decide +kernel
theorem dX8_worthOf_17 : decode cX8_worthOf 17 = .ok (.bipush 99, 2) := by decide +kernel
theorem dX8_worthOf_19 : decode cX8_worthOf 19 = .ok (.istore 6, 2) := by decide +kernel
theorem dX8_worthOf_21 : decode cX8_worthOf 21 = .ok (.iconst 0, 1) := by decide +kernel
theorem dX8_worthOf_22 : decode cX8_worthOf 22 = .ok (.istore 7, 2) := by decide +kernel
theorem dX8_worthOf_24 : decode cX8_worthOf 24 = .ok (.iload 7, 2) := by decide +kernel
theorem dX8_worthOf_26 : decode cX8_worthOf 26 = .ok (.aload_n 0, 1) := by decide +kernel
theorem dX8_worthOf_27 : decode cX8_worthOf 27 = .ok (.getfield 7, 3) := by decide +kernel
theorem dX8_worthOf_30 : decode cX8_worthOf 30 = .ok (.if_icmp .ge 47, 3) := by decide +kernel
theorem dX8_worthOf_33 : decode cX8_worthOf 33 = .ok (.iload_n 1, 1) := by decide +kernel
theorem dX8_worthOf_34 : decode cX8_worthOf 34 = .ok (.iload 7, 2) := by decide +kernel
theorem dX8_worthOf_36 : decode cX8_worthOf 36 = .ok (.ishr, 1) := by decide +kernel
theorem dX8_worthOf_37 : decode cX8_worthOf 37 = .ok (.iconst 1, 1) := by decide +kernel
theorem dX8_worthOf_38 : decode cX8_worthOf 38 = .ok (.iand, 1) := by decide +kernel
theorem dX8_worthOf_39 : decode cX8_worthOf 39 = .ok (.iconst 1, 1) := by decide +kernel
theorem dX8_worthOf_40 : decode cX8_worthOf 40 = .ok (.if_icmp .ne 27, 3) := by decide +kernel
theorem dX8_worthOf_43 : decode cX8_worthOf 43 = .ok (.aload_n 0, 1) := by decide +kernel
theorem dX8_worthOf_44 : decode cX8_worthOf 44 = .ok (.iload 5, 2) := by decide +kernel
theorem dX8_worthOf_46 : decode cX8_worthOf 46 = .ok (.iload 7, 2) := by decide +kernel
theorem dX8_worthOf_48 : decode cX8_worthOf 48 = .ok (.invokevirtual 47, 3) := by decide +kernel
theorem dX8_worthOf_51 : decode cX8_worthOf 51 = .ok (.iload 6, 2) := by decide +kernel
theorem dX8_worthOf_53 : decode cX8_worthOf 53 = .ok (.if_icmp .ge 14, 3) := by decide +kernel
theorem dX8_worthOf_56 : decode cX8_worthOf 56 = .ok (.aload_n 0, 1) := by decide +kernel
theorem dX8_worthOf_57 : decode cX8_worthOf 57 = .ok (.iload 5, 2) := by decide +kernel
theorem dX8_worthOf_59 : decode cX8_worthOf 59 = .ok (.iload 7, 2) := by decide +kernel
theorem dX8_worthOf_61 : decode cX8_worthOf 61 = .ok (.invokevirtual 47, 3) := by decide +kernel
theorem dX8_worthOf_64 : decode cX8_worthOf 64 = .ok (.goto 5, 3) := by decide +kernel
theorem dX8_worthOf_67 : decode cX8_worthOf 67 = .ok (.iload 6, 2) := by decide +kernel
theorem dX8_worthOf_69 : decode cX8_worthOf 69 = .ok (.istore 6, 2) := by decide +kernel
theorem dX8_worthOf_71 : decode cX8_worthOf 71 = .ok (.iinc 7 1, 3) := by decide +kernel
theorem dX8_worthOf_74 : decode cX8_worthOf 74 = .ok (.goto (-50), 3) := by decide +kernel
theorem dX8_worthOf_77 : decode cX8_worthOf 77 = .ok (.iload_n 3, 1) := by decide +kernel
theorem dX8_worthOf_78 : decode cX8_worthOf 78 = .ok (.iload 6, 2) := by decide +kernel
theorem dX8_worthOf_80 : decode cX8_worthOf 80 = .ok (.iadd, 1) := by decide +kernel
theorem dX8_worthOf_81 : decode cX8_worthOf 81 = .ok (.istore_n 3, 1) := by decide +kernel
theorem dX8_worthOf_82 : decode cX8_worthOf 82 = .ok (.iload 6, 2) := by decide +kernel
theorem dX8_worthOf_84 : decode cX8_worthOf 84 = .ok (.iload 4, 2) := by decide +kernel
theorem dX8_worthOf_86 : decode cX8_worthOf 86 = .ok (.if_icmp .le 8, 3) := by decide +kernel
theorem dX8_worthOf_89 : decode cX8_worthOf 89 = .ok (.iload 6, 2) := by decide +kernel
theorem dX8_worthOf_91 : decode cX8_worthOf 91 = .ok (.goto 5, 3) := by decide +kernel
theorem dX8_worthOf_94 : decode cX8_worthOf 94 = .ok (.iload 4, 2) := by decide +kernel
theorem dX8_worthOf_96 : decode cX8_worthOf 96 = .ok (.istore 4, 2) := by decide +kernel
theorem dX8_worthOf_98 : decode cX8_worthOf 98 = .ok (.iinc 5 1, 3) := by decide +kernel
theorem dX8_worthOf_101 : decode cX8_worthOf 101 = .ok (.goto (-93), 3) := by decide +kernel
theorem dX8_worthOf_104 : decode cX8_worthOf 104 = .ok (.iload_n 2, 1) := by decide +kernel
theorem dX8_worthOf_105 : decode cX8_worthOf 105 = .ok (.ifCond .ne 8, 3) := by decide +kernel
theorem dX8_worthOf_108 : decode cX8_worthOf 108 = .ok (.iload 4, 2) := by decide +kernel
theorem dX8_worthOf_110 : decode cX8_worthOf 110 = .ok (.goto 4, 3) := by decide +kernel
theorem dX8_worthOf_113 : decode cX8_worthOf 113 = .ok (.iload_n 3, 1) := by decide +kernel
theorem dX8_worthOf_114 : decode cX8_worthOf 114 = .ok (.ireturn, 1) := by decide +kernel
theorem dX8_centres_0 : decode cX8_centres 0 = .ok (.iload_n 1, 1) := by decide +kernel
theorem dX8_centres_1 : decode cX8_centres 1 = .ok (.iconst 1, 1) := by decide +kernel
theorem dX8_centres_2 : decode cX8_centres 2 = .ok (.aload_n 0, 1) := by decide +kernel
theorem dX8_centres_3 : decode cX8_centres 3 = .ok (.getfield 7, 3) := by decide +kernel
theorem dX8_centres_6 : decode cX8_centres 6 = .ok (.invokestatic 39, 3) := by decide +kernel
theorem dX8_centres_9 : decode cX8_centres 9 = .ok (.ifCond .eq 21, 3) := by decide +kernel
theorem dX8_centres_12 : decode cX8_centres 12 = .ok (.iload_n 2, 1) := by decide +kernel
theorem dX8_centres_13 : decode cX8_centres 13 = .ok (.iconst 0, 1) := by decide +kernel
theorem dX8_centres_14 : decode cX8_centres 14 = .ok (.iconst 1, 1) := by decide +kernel
theorem dX8_centres_15 : decode cX8_centres 15 = .ok (.invokestatic 39, 3) := by decide +kernel
theorem dX8_centres_18 : decode cX8_centres 18 = .ok (.ifCond .eq 12, 3) := by decide +kernel
theorem dX8_centres_21 : decode cX8_centres 21 = .ok (.iload_n 3, 1) := by decide +kernel
theorem dX8_centres_22 : decode cX8_centres 22 = .ok (.iconst 0, 1) := by decide +kernel
theorem dX8_centres_23 : decode cX8_centres 23 = .ok (.iconst 1, 1) := by decide +kernel
theorem dX8_centres_24 : decode cX8_centres 24 = .ok (.invokestatic 39, 3) := by decide +kernel
theorem dX8_centres_27 : decode cX8_centres 27 = .ok (.ifCond .ne 5, 3) := by decide +kernel
theorem dX8_centres_30 : decode cX8_centres 30 = .ok (.iconst (-1), 1) := by decide +kernel
theorem dX8_centres_31 : decode cX8_centres 31 = .ok (.ireturn, 1) := by decide +kernel
theorem dX8_centres_32 : decode cX8_centres 32 = .ok (.iconst 0, 1) := by decide +kernel
theorem dX8_centres_33 : decode cX8_centres 33 = .ok (.istore 4, 2) := by decide +kernel
theorem dX8_centres_35 : decode cX8_centres 35 = .ok (.sipush 9999, 3) := by decide +kernel
theorem dX8_centres_38 : decode cX8_centres 38 = .ok (.istore 5, 2) := by decide +kernel
theorem dX8_centres_40 : decode cX8_centres 40 = .ok (.iconst 1, 1) := by decide +kernel
theorem dX8_centres_41 : decode cX8_centres 41 = .ok (.istore 6, 2) := by decide +kernel
theorem dX8_centres_43 : decode cX8_centres 43 = .ok (.iload 6, 2) := by decide +kernel
theorem dX8_centres_45 : decode cX8_centres 45 = .ok (.iconst 1, 1) := by decide +kernel
theorem dX8_centres_46 : decode cX8_centres 46 = .ok (.aload_n 0, 1) := by decide +kernel
theorem dX8_centres_47 : decode cX8_centres 47 = .ok (.getfield 7, 3) := by decide +kernel
theorem dX8_centres_50 : decode cX8_centres 50 = .ok (.ishl, 1) := by decide +kernel
theorem dX8_centres_51 : decode cX8_centres 51 = .ok (.if_icmp .ge 43, 3) := by decide +kernel
theorem dX8_centres_54 : decode cX8_centres 54 = .ok (.iload 6, 2) := by decide +kernel
theorem dX8_centres_56 : decode cX8_centres 56 = .ok (.invokestatic 65, 3) := by decide +kernel
theorem dX8_centres_59 : decode cX8_centres 59 = .ok (.iload_n 1, 1) := by decide +kernel
theorem dX8_centres_60 : decode cX8_centres 60 = .ok (.if_icmp .ne 28, 3) := by decide +kernel
theorem dX8_centres_63 : decode cX8_centres 63 = .ok (.aload_n 0, 1) := by decide +kernel
theorem dX8_centres_64 : decode cX8_centres 64 = .ok (.iload 6, 2) := by decide +kernel
theorem dX8_centres_66 : decode cX8_centres 66 = .ok (.iload_n 2, 1) := by decide +kernel
theorem dX8_centres_67 : decode cX8_centres 67 = .ok (.invokevirtual 108, 3) := by decide +kernel
theorem dX8_centres_70 : decode cX8_centres 70 = .ok (.iload 5, 2) := by decide +kernel
theorem dX8_centres_72 : decode cX8_centres 72 = .ok (.if_icmp .ge 16, 3) := by decide +kernel
theorem dX8_centres_75 : decode cX8_centres 75 = .ok (.aload_n 0, 1) := by decide +kernel
theorem dX8_centres_76 : decode cX8_centres 76 = .ok (.iload 6, 2) := by decide +kernel
theorem dX8_centres_78 : decode cX8_centres 78 = .ok (.iload_n 2, 1) := by decide +kernel
theorem dX8_centres_79 : decode cX8_centres 79 = .ok (.invokevirtual 108, 3) := by decide +kernel
theorem dX8_centres_82 : decode cX8_centres 82 = .ok (.istore 5, 2) := by decide +kernel
theorem dX8_centres_84 : decode cX8_centres 84 = .ok (.iload 6, 2) := by decide +kernel
theorem dX8_centres_86 : decode cX8_centres 86 = .ok (.istore 4, 2) := by decide +kernel
theorem dX8_centres_88 : decode cX8_centres 88 = .ok (.iinc 6 1, 3) := by decide +kernel
theorem dX8_centres_91 : decode cX8_centres 91 = .ok (.goto (-48), 3) := by decide +kernel
theorem dX8_centres_94 : decode cX8_centres 94 = .ok (.iload_n 3, 1) := by decide +kernel
theorem dX8_centres_95 : decode cX8_centres 95 = .ok (.ifCond .ne 8, 3) := by decide +kernel
theorem dX8_centres_98 : decode cX8_centres 98 = .ok (.iload 4, 2) := by decide +kernel
theorem dX8_centres_100 : decode cX8_centres 100 = .ok (.goto 5, 3) := by decide +kernel
theorem dX8_centres_103 : decode cX8_centres 103 = .ok (.iload 5, 2) := by decide +kernel
theorem dX8_centres_105 : decode cX8_centres 105 = .ok (.ireturn, 1) := by decide +kernel
theorem dX8_number_0 : decode cX8_number 0 = .ok (.iload_n 1, 1) := by decide +kernel
theorem dX8_number_1 : decode cX8_number 1 = .ok (.iconst 0, 1) := by decide +kernel
theorem dX8_number_2 : decode cX8_number 2 = .ok (.bipush 9, 2) := by decide +kernel
theorem dX8_number_4 : decode cX8_number 4 = .ok (.invokestatic 39, 3) := by decide +kernel
theorem dX8_number_7 : decode cX8_number 7 = .ok (.ifCond .eq 16, 3) := by decide +kernel
theorem dX8_number_10 : decode cX8_number 10 = .ok (.iload_n 2, 1) := by decide +kernel
theorem dX8_number_11 : decode cX8_number 11 = .ok (.sipush (-1000), 3) := by decide +kernel
theorem dX8_number_14 : decode cX8_number 14 = .ok (.sipush 1000, 3) := by decide +kernel
theorem dX8_number_17 : decode cX8_number 17 = .ok (.invokestatic 39, 3) := by decide +kernel
theorem dX8_number_20 : decode cX8_number 20 = .ok (.ifCond .ne 7, 3) := by decide +kernel
theorem dX8_number_23 : decode cX8_number 23 = .ok (.sipush (-10000), 3) := by decide +kernel
theorem dX8_number_26 : decode cX8_number 26 = .ok (.ireturn, 1) := by decide +kernel
theorem dX8_number_27 : decode cX8_number 27 = .ok (.aload_n 0, 1) := by decide +kernel
theorem dX8_number_28 : decode cX8_number 28 = .ok (.getfield 23, 3) := by decide +kernel
theorem dX8_number_31 : decode cX8_number 31 = .ok (.iload_n 1, 1) := by decide +kernel
theorem dX8_number_32 : decode cX8_number 32 = .ok (.iaload, 1) := by decide +kernel
theorem dX8_number_33 : decode cX8_number 33 = .ok (.istore_n 3, 1) := by decide +kernel
theorem dX8_number_34 : decode cX8_number 34 = .ok (.aload_n 0, 1) := by decide +kernel
theorem dX8_number_35 : decode cX8_number 35 = .ok (.getfield 23, 3) := by decide +kernel
theorem dX8_number_38 : decode cX8_number 38 = .ok (.iload_n 1, 1) := by decide +kernel
theorem dX8_number_39 : decode cX8_number 39 = .ok (.iload_n 2, 1) := by decide +kernel
theorem dX8_number_40 : decode cX8_number 40 = .ok (.iastore, 1) := by decide +kernel
theorem dX8_number_41 : decode cX8_number 41 = .ok (.iload_n 3, 1) := by decide +kernel
theorem dX8_number_42 : decode cX8_number 42 = .ok (.ireturn, 1) := by decide +kernel
theorem dX8_sumOf_0 : decode cX8_sumOf 0 = .ok (.iconst 0, 1) := by decide +kernel
theorem dX8_sumOf_1 : decode cX8_sumOf 1 = .ok (.istore_n 3, 1) := by decide +kernel
theorem dX8_sumOf_2 : decode cX8_sumOf 2 = .ok (.iconst 0, 1) := by decide +kernel
theorem dX8_sumOf_3 : decode cX8_sumOf 3 = .ok (.istore 4, 2) := by decide +kernel
theorem dX8_sumOf_5 : decode cX8_sumOf 5 = .ok (.iload 4, 2) := by decide +kernel
theorem dX8_sumOf_7 : decode cX8_sumOf 7 = .ok (.iload_n 1, 1) := by decide +kernel
theorem dX8_sumOf_8 : decode cX8_sumOf 8 = .ok (.if_icmp .ge 40, 3) := by decide +kernel
theorem dX8_sumOf_11 : decode cX8_sumOf 11 = .ok (.iload_n 3, 1) := by decide +kernel
theorem dX8_sumOf_12 : decode cX8_sumOf 12 = .ok (.iload_n 2, 1) := by decide +kernel
theorem dX8_sumOf_13 : decode cX8_sumOf 13 = .ok (.iload 4, 2) := by decide +kernel
theorem dX8_sumOf_15 : decode cX8_sumOf 15 = .ok (.ishr, 1) := by decide +kernel
theorem dX8_sumOf_16 : decode cX8_sumOf 16 = .ok (.iconst 1, 1) := by decide +kernel
theorem dX8_sumOf_17 : decode cX8_sumOf 17 = .ok (.iand, 1) := by decide +kernel
theorem dX8_sumOf_18 : decode cX8_sumOf 18 = .ok (.iconst 1, 1) := by decide +kernel
theorem dX8_sumOf_19 : decode cX8_sumOf 19 = .ok (.if_icmp .ne 14, 3) := by decide +kernel
theorem dX8_sumOf_22 : decode cX8_sumOf 22 = .ok (.aload_n 0, 1) := by decide +kernel
theorem dX8_sumOf_23 : decode cX8_sumOf 23 = .ok (.getfield 23, 3) := by decide +kernel
theorem dX8_sumOf_26 : decode cX8_sumOf 26 = .ok (.iload 4, 2) := by decide +kernel
theorem dX8_sumOf_28 : decode cX8_sumOf 28 = .ok (.iaload, 1) := by decide +kernel
theorem dX8_sumOf_29 : decode cX8_sumOf 29 = .ok (.ineg, 1) := by decide +kernel
theorem dX8_sumOf_30 : decode cX8_sumOf 30 = .ok (.goto 10, 3) := by decide +kernel
theorem dX8_sumOf_33 : decode cX8_sumOf 33 = .ok (.aload_n 0, 1) := by decide +kernel
theorem dX8_sumOf_34 : decode cX8_sumOf 34 = .ok (.getfield 23, 3) := by decide +kernel
theorem dX8_sumOf_37 : decode cX8_sumOf 37 = .ok (.iload 4, 2) := by decide +kernel
theorem dX8_sumOf_39 : decode cX8_sumOf 39 = .ok (.iaload, 1) := by decide +kernel
theorem dX8_sumOf_40 : decode cX8_sumOf 40 = .ok (.iadd, 1) := by decide +kernel
theorem dX8_sumOf_41 : decode cX8_sumOf 41 = .ok (.istore_n 3, 1) := by decide +kernel
theorem dX8_sumOf_42 : decode cX8_sumOf 42 = .ok (.iinc 4 1, 3) := by decide +kernel
theorem dX8_sumOf_45 : decode cX8_sumOf 45 = .ok (.goto (-40), 3) := by decide +kernel
theorem dX8_sumOf_48 : decode cX8_sumOf 48 = .ok (.iload_n 3, 1) := by decide +kernel
theorem dX8_sumOf_49 : decode cX8_sumOf 49 = .ok (.ifCond .ge 8, 3) := by decide +kernel
theorem dX8_sumOf_52 : decode cX8_sumOf 52 = .ok (.iload_n 3, 1) := by decide +kernel
theorem dX8_sumOf_53 : decode cX8_sumOf 53 = .ok (.ineg, 1) := by decide +kernel
theorem dX8_sumOf_54 : decode cX8_sumOf 54 = .ok (.goto 4, 3) := by decide +kernel
theorem dX8_sumOf_57 : decode cX8_sumOf 57 = .ok (.iload_n 3, 1) := by decide +kernel
theorem dX8_sumOf_58 : decode cX8_sumOf 58 = .ok (.ireturn, 1) := by decide +kernel
theorem dX8_signs_0 : decode cX8_signs 0 = .ok (.iload_n 1, 1) := by decide +kernel
theorem dX8_signs_1 : decode cX8_signs 1 = .ok (.iconst 1, 1) := by decide +kernel
theorem dX8_signs_2 : decode cX8_signs 2 = .ok (.bipush 10, 2) := by decide +kernel
theorem dX8_signs_4 : decode cX8_signs 4 = .ok (.invokestatic 39, 3) := by decide +kernel
theorem dX8_signs_7 : decode cX8_signs 7 = .ok (.ifCond .eq 14, 3) := by decide +kernel
theorem dX8_signs_10 : decode cX8_signs 10 = .ok (.iload_n 2, 1) := by decide +kernel
theorem dX8_signs_11 : decode cX8_signs 11 = .ok (.iconst 0, 1) := by decide +kernel
theorem dX8_signs_12 : decode cX8_signs 12 = .ok (.sipush 10000, 3) := by decide +kernel
theorem dX8_signs_15 : decode cX8_signs 15 = .ok (.invokestatic 39, 3) := by decide +kernel
theorem dX8_signs_18 : decode cX8_signs 18 = .ok (.ifCond .ne 5, 3) := by decide +kernel
theorem dX8_signs_21 : decode cX8_signs 21 = .ok (.iconst (-1), 1) := by decide +kernel
theorem dX8_signs_22 : decode cX8_signs 22 = .ok (.ireturn, 1) := by decide +kernel
theorem dX8_signs_23 : decode cX8_signs 23 = .ok (.iconst 0, 1) := by decide +kernel
theorem dX8_signs_24 : decode cX8_signs 24 = .ok (.istore_n 3, 1) := by decide +kernel
theorem dX8_signs_25 : decode cX8_signs 25 = .ok (.iconst 0, 1) := by decide +kernel
theorem dX8_signs_26 : decode cX8_signs 26 = .ok (.istore 4, 2) := by decide +kernel
theorem dX8_signs_28 : decode cX8_signs 28 = .ok (.iload 4, 2) := by decide +kernel
theorem dX8_signs_30 : decode cX8_signs 30 = .ok (.iconst 1, 1) := by decide +kernel
theorem dX8_signs_31 : decode cX8_signs 31 = .ok (.iload_n 1, 1) := by decide +kernel
theorem dX8_signs_32 : decode cX8_signs 32 = .ok (.ishl, 1) := by decide +kernel
theorem dX8_signs_33 : decode cX8_signs 33 = .ok (.if_icmp .ge 28, 3) := by decide +kernel
theorem dX8_signs_36 : decode cX8_signs 36 = .ok (.iload_n 3, 1) := by decide +kernel
theorem dX8_signs_37 : decode cX8_signs 37 = .ok (.aload_n 0, 1) := by decide +kernel
theorem dX8_signs_38 : decode cX8_signs 38 = .ok (.iload_n 1, 1) := by decide +kernel
theorem dX8_signs_39 : decode cX8_signs 39 = .ok (.iload 4, 2) := by decide +kernel
theorem dX8_signs_41 : decode cX8_signs 41 = .ok (.invokevirtual 111, 3) := by decide +kernel
theorem dX8_signs_44 : decode cX8_signs 44 = .ok (.iload_n 2, 1) := by decide +kernel
theorem dX8_signs_45 : decode cX8_signs 45 = .ok (.if_icmp .gt 7, 3) := by decide +kernel
theorem dX8_signs_48 : decode cX8_signs 48 = .ok (.iconst 1, 1) := by decide +kernel
theorem dX8_signs_49 : decode cX8_signs 49 = .ok (.goto 4, 3) := by decide +kernel
theorem dX8_signs_52 : decode cX8_signs 52 = .ok (.iconst 0, 1) := by decide +kernel
theorem dX8_signs_53 : decode cX8_signs 53 = .ok (.iadd, 1) := by decide +kernel
theorem dX8_signs_54 : decode cX8_signs 54 = .ok (.istore_n 3, 1) := by decide +kernel
theorem dX8_signs_55 : decode cX8_signs 55 = .ok (.iinc 4 1, 3) := by decide +kernel
theorem dX8_signs_58 : decode cX8_signs 58 = .ok (.goto (-30), 3) := by decide +kernel
theorem dX8_signs_61 : decode cX8_signs 61 = .ok (.iload_n 3, 1) := by decide +kernel
theorem dX8_signs_62 : decode cX8_signs 62 = .ok (.ireturn, 1) := by decide +kernel
theorem dX8_least_0 : decode cX8_least 0 = .ok (.iload_n 1, 1) := by decide +kernel
theorem dX8_least_1 : decode cX8_least 1 = .ok (.iconst 1, 1) := by decide +kernel
theorem dX8_least_2 : decode cX8_least 2 = .ok (.bipush 10, 2) := by decide +kernel
theorem dX8_least_4 : decode cX8_least 4 = .ok (.invokestatic 39, 3) := by decide +kernel
theorem dX8_least_7 : decode cX8_least 7 = .ok (.ifCond .eq 12, 3) := by decide +kernel
theorem dX8_least_10 : decode cX8_least 10 = .ok (.iload_n 2, 1) := by decide +kernel
theorem dX8_least_11 : decode cX8_least 11 = .ok (.iconst 0, 1) := by decide +kernel
theorem dX8_least_12 : decode cX8_least 12 = .ok (.iconst 1, 1) := by decide +kernel
theorem dX8_least_13 : decode cX8_least 13 = .ok (.invokestatic 39, 3) := by decide +kernel
theorem dX8_least_16 : decode cX8_least 16 = .ok (.ifCond .ne 5, 3) := by decide +kernel
theorem dX8_least_19 : decode cX8_least 19 = .ok (.iconst (-1), 1) := by decide +kernel
theorem dX8_least_20 : decode cX8_least 20 = .ok (.ireturn, 1) := by decide +kernel
theorem dX8_least_21 : decode cX8_least 21 = .ok (.iconst 0, 1) := by decide +kernel
theorem dX8_least_22 : decode cX8_least 22 = .ok (.istore_n 3, 1) := by decide +kernel
theorem dX8_least_23 : decode cX8_least 23 = .ok (.iconst 1, 1) := by decide +kernel
theorem dX8_least_24 : decode cX8_least 24 = .ok (.istore 4, 2) := by decide +kernel
theorem dX8_least_26 : decode cX8_least 26 = .ok (.iload 4, 2) := by decide +kernel
theorem dX8_least_28 : decode cX8_least 28 = .ok (.iconst 1, 1) := by decide +kernel
theorem dX8_least_29 : decode cX8_least 29 = .ok (.iload_n 1, 1) := by decide +kernel
theorem dX8_least_30 : decode cX8_least 30 = .ok (.ishl, 1) := by decide +kernel
theorem dX8_least_31 : decode cX8_least 31 = .ok (.if_icmp .ge 32, 3) := by decide +kernel
theorem dX8_least_34 : decode cX8_least 34 = .ok (.aload_n 0, 1) := by decide +kernel
theorem dX8_least_35 : decode cX8_least 35 = .ok (.iload_n 1, 1) := by decide +kernel
theorem dX8_least_36 : decode cX8_least 36 = .ok (.iload 4, 2) := by decide +kernel
theorem dX8_least_38 : decode cX8_least 38 = .ok (.invokevirtual 111, 3) := by decide +kernel
theorem dX8_least_41 : decode cX8_least 41 = .ok (.aload_n 0, 1) := by decide +kernel
theorem dX8_least_42 : decode cX8_least 42 = .ok (.iload_n 1, 1) := by decide +kernel
theorem dX8_least_43 : decode cX8_least 43 = .ok (.iload_n 3, 1) := by decide +kernel
theorem dX8_least_44 : decode cX8_least 44 = .ok (.invokevirtual 111, 3) := by decide +kernel
theorem dX8_least_47 : decode cX8_least 47 = .ok (.if_icmp .ge 8, 3) := by decide +kernel
theorem dX8_least_50 : decode cX8_least 50 = .ok (.iload 4, 2) := by decide +kernel
theorem dX8_least_52 : decode cX8_least 52 = .ok (.goto 4, 3) := by decide +kernel
theorem dX8_least_55 : decode cX8_least 55 = .ok (.iload_n 3, 1) := by decide +kernel
theorem dX8_least_56 : decode cX8_least 56 = .ok (.istore_n 3, 1) := by decide +kernel
theorem dX8_least_57 : decode cX8_least 57 = .ok (.iinc 4 1, 3) := by decide +kernel
theorem dX8_least_60 : decode cX8_least 60 = .ok (.goto (-34), 3) := by decide +kernel
theorem dX8_least_63 : decode cX8_least 63 = .ok (.iload_n 2, 1) := by decide +kernel
theorem dX8_least_64 : decode cX8_least 64 = .ok (.ifCond .ne 7, 3) := by decide +kernel
theorem dX8_least_67 : decode cX8_least 67 = .ok (.iload_n 3, 1) := by decide +kernel
theorem dX8_least_68 : decode cX8_least 68 = .ok (.goto 9, 3) := by decide +kernel
theorem dX8_least_71 : decode cX8_least 71 = .ok (.aload_n 0, 1) := by decide +kernel
theorem dX8_least_72 : decode cX8_least 72 = .ok (.iload_n 1, 1) := by decide +kernel
theorem dX8_least_73 : decode cX8_least 73 = .ok (.iload_n 3, 1) := by decide +kernel
theorem dX8_least_74 : decode cX8_least 74 = .ok (.invokevirtual 111, 3) := by decide +kernel
theorem dX8_least_77 : decode cX8_least 77 = .ok (.ireturn, 1) := by decide +kernel
theorem dX8_count_0 : decode cX8_count 0 = .ok (.aload_n 0, 1) := by decide +kernel
theorem dX8_count_1 : decode cX8_count 1 = .ok (.getfield 7, 3) := by decide +kernel
theorem dX8_count_4 : decode cX8_count 4 = .ok (.ireturn, 1) := by decide +kernel
theorem dJ6_bitCount_0f7a4_0 : decode cJ6_bitCount_0f7a4 0 = .ok (.iload_n 0, 1) := by decide +kernel
theorem dJ6_bitCount_0f7a4_1 : decode cJ6_bitCount_0f7a4 1 = .ok (.iload_n 0, 1) := by decide +kernel
theorem dJ6_bitCount_0f7a4_2 : decode cJ6_bitCount_0f7a4 2 = .ok (.iconst 1, 1) := by decide +kernel
theorem dJ6_bitCount_0f7a4_3 : decode cJ6_bitCount_0f7a4 3 = .ok (.iushr, 1) := by decide +kernel
theorem dJ6_bitCount_0f7a4_4 : decode cJ6_bitCount_0f7a4 4 = .ok (.ldc_w 265, 3) := by decide +kernel
theorem dJ6_bitCount_0f7a4_7 : decode cJ6_bitCount_0f7a4 7 = .ok (.iand, 1) := by decide +kernel
theorem dJ6_bitCount_0f7a4_8 : decode cJ6_bitCount_0f7a4 8 = .ok (.isub, 1) := by decide +kernel
theorem dJ6_bitCount_0f7a4_9 : decode cJ6_bitCount_0f7a4 9 = .ok (.istore_n 0, 1) := by decide +kernel
theorem dJ6_bitCount_0f7a4_10 : decode cJ6_bitCount_0f7a4 10 = .ok (.iload_n 0, 1) := by decide +kernel
theorem dJ6_bitCount_0f7a4_11 : decode cJ6_bitCount_0f7a4 11 = .ok (.ldc_w 266, 3) := by decide +kernel
theorem dJ6_bitCount_0f7a4_14 : decode cJ6_bitCount_0f7a4 14 = .ok (.iand, 1) := by decide +kernel
theorem dJ6_bitCount_0f7a4_15 : decode cJ6_bitCount_0f7a4 15 = .ok (.iload_n 0, 1) := by decide +kernel
theorem dJ6_bitCount_0f7a4_16 : decode cJ6_bitCount_0f7a4 16 = .ok (.iconst 2, 1) := by decide +kernel
theorem dJ6_bitCount_0f7a4_17 : decode cJ6_bitCount_0f7a4 17 = .ok (.iushr, 1) := by decide +kernel
theorem dJ6_bitCount_0f7a4_18 : decode cJ6_bitCount_0f7a4 18 = .ok (.ldc_w 266, 3) := by decide +kernel
theorem dJ6_bitCount_0f7a4_21 : decode cJ6_bitCount_0f7a4 21 = .ok (.iand, 1) := by decide +kernel
theorem dJ6_bitCount_0f7a4_22 : decode cJ6_bitCount_0f7a4 22 = .ok (.iadd, 1) := by decide +kernel
theorem dJ6_bitCount_0f7a4_23 : decode cJ6_bitCount_0f7a4 23 = .ok (.istore_n 0, 1) := by decide +kernel
theorem dJ6_bitCount_0f7a4_24 : decode cJ6_bitCount_0f7a4 24 = .ok (.iload_n 0, 1) := by decide +kernel
theorem dJ6_bitCount_0f7a4_25 : decode cJ6_bitCount_0f7a4 25 = .ok (.iload_n 0, 1) := by decide +kernel
theorem dJ6_bitCount_0f7a4_26 : decode cJ6_bitCount_0f7a4 26 = .ok (.iconst 4, 1) := by decide +kernel
theorem dJ6_bitCount_0f7a4_27 : decode cJ6_bitCount_0f7a4 27 = .ok (.iushr, 1) := by decide +kernel
theorem dJ6_bitCount_0f7a4_28 : decode cJ6_bitCount_0f7a4 28 = .ok (.iadd, 1) := by decide +kernel
theorem dJ6_bitCount_0f7a4_29 : decode cJ6_bitCount_0f7a4 29 = .ok (.ldc_w 267, 3) := by decide +kernel
theorem dJ6_bitCount_0f7a4_32 : decode cJ6_bitCount_0f7a4 32 = .ok (.iand, 1) := by decide +kernel
theorem dJ6_bitCount_0f7a4_33 : decode cJ6_bitCount_0f7a4 33 = .ok (.istore_n 0, 1) := by decide +kernel
theorem dJ6_bitCount_0f7a4_34 : decode cJ6_bitCount_0f7a4 34 = .ok (.iload_n 0, 1) := by decide +kernel
theorem dJ6_bitCount_0f7a4_35 : decode cJ6_bitCount_0f7a4 35 = .ok (.iload_n 0, 1) := by decide +kernel
theorem dJ6_bitCount_0f7a4_36 : decode cJ6_bitCount_0f7a4 36 = .ok (.bipush 8, 2) := by decide +kernel
theorem dJ6_bitCount_0f7a4_38 : decode cJ6_bitCount_0f7a4 38 = .ok (.iushr, 1) := by decide +kernel
theorem dJ6_bitCount_0f7a4_39 : decode cJ6_bitCount_0f7a4 39 = .ok (.iadd, 1) := by decide +kernel
theorem dJ6_bitCount_0f7a4_40 : decode cJ6_bitCount_0f7a4 40 = .ok (.istore_n 0, 1) := by decide +kernel
theorem dJ6_bitCount_0f7a4_41 : decode cJ6_bitCount_0f7a4 41 = .ok (.iload_n 0, 1) := by decide +kernel
theorem dJ6_bitCount_0f7a4_42 : decode cJ6_bitCount_0f7a4 42 = .ok (.iload_n 0, 1) := by decide +kernel
theorem dJ6_bitCount_0f7a4_43 : decode cJ6_bitCount_0f7a4 43 = .ok (.bipush 16, 2) := by decide +kernel
theorem dJ6_bitCount_0f7a4_45 : decode cJ6_bitCount_0f7a4 45 = .ok (.iushr, 1) := by decide +kernel
theorem dJ6_bitCount_0f7a4_46 : decode cJ6_bitCount_0f7a4 46 = .ok (.iadd, 1) := by decide +kernel
theorem dJ6_bitCount_0f7a4_47 : decode cJ6_bitCount_0f7a4 47 = .ok (.istore_n 0, 1) := by decide +kernel
theorem dJ6_bitCount_0f7a4_48 : decode cJ6_bitCount_0f7a4 48 = .ok (.iload_n 0, 1) := by decide +kernel
theorem dJ6_bitCount_0f7a4_49 : decode cJ6_bitCount_0f7a4 49 = .ok (.bipush 63, 2) := by decide +kernel
theorem dJ6_bitCount_0f7a4_51 : decode cJ6_bitCount_0f7a4 51 = .ok (.iand, 1) := by decide +kernel
theorem dJ6_bitCount_0f7a4_52 : decode cJ6_bitCount_0f7a4 52 = .ok (.ireturn, 1) := by decide +kernel
theorem dJ9_abs_0f7a4_0 : decode cJ9_abs_0f7a4 0 = .ok (.iload_n 0, 1) := by decide +kernel
theorem dJ9_abs_0f7a4_1 : decode cJ9_abs_0f7a4 1 = .ok (.ifCond .ge 8, 3) := by decide +kernel
theorem dJ9_abs_0f7a4_4 : decode cJ9_abs_0f7a4 4 = .ok (.iload_n 0, 1) := by decide +kernel
theorem dJ9_abs_0f7a4_5 : decode cJ9_abs_0f7a4 5 = .ok (.ineg, 1) := by decide +kernel
theorem dJ9_abs_0f7a4_6 : decode cJ9_abs_0f7a4 6 = .ok (.goto 4, 3) := by decide +kernel
theorem dJ9_abs_0f7a4_9 : decode cJ9_abs_0f7a4 9 = .ok (.iload_n 0, 1) := by decide +kernel
theorem dJ9_abs_0f7a4_10 : decode cJ9_abs_0f7a4 10 = .ok (.ireturn, 1) := by decide +kernel
theorem dJ9_max_7cf53_0 : decode cJ9_max_7cf53 0 = .ok (.iload_n 0, 1) := by decide +kernel
theorem dJ9_max_7cf53_1 : decode cJ9_max_7cf53 1 = .ok (.iload_n 1, 1) := by decide +kernel
theorem dJ9_max_7cf53_2 : decode cJ9_max_7cf53 2 = .ok (.if_icmp .lt 7, 3) := by decide +kernel
theorem dJ9_max_7cf53_5 : decode cJ9_max_7cf53 5 = .ok (.iload_n 0, 1) := by decide +kernel
theorem dJ9_max_7cf53_6 : decode cJ9_max_7cf53 6 = .ok (.goto 4, 3) := by decide +kernel
theorem dJ9_max_7cf53_9 : decode cJ9_max_7cf53 9 = .ok (.iload_n 1, 1) := by decide +kernel
theorem dJ9_max_7cf53_10 : decode cJ9_max_7cf53 10 = .ok (.ireturn, 1) := by decide +kernel
theorem dJ9_min_7cf53_0 : decode cJ9_min_7cf53 0 = .ok (.iload_n 0, 1) := by decide +kernel
theorem dJ9_min_7cf53_1 : decode cJ9_min_7cf53 1 = .ok (.iload_n 1, 1) := by decide +kernel
theorem dJ9_min_7cf53_2 : decode cJ9_min_7cf53 2 = .ok (.if_icmp .gt 7, 3) := by decide +kernel
theorem dJ9_min_7cf53_5 : decode cJ9_min_7cf53 5 = .ok (.iload_n 0, 1) := by decide +kernel
theorem dJ9_min_7cf53_6 : decode cJ9_min_7cf53 6 = .ok (.goto 4, 3) := by decide +kernel
theorem dJ9_min_7cf53_9 : decode cJ9_min_7cf53 9 = .ok (.iload_n 1, 1) := by decide +kernel
theorem dJ9_min_7cf53_10 : decode cJ9_min_7cf53 10 = .ok (.ireturn, 1) := by decide +kernel
theorem dL_law_0 : decode cL_law 0 = .ok (.new 7, 3) := by decide +kernel
theorem dL_law_3 : decode cL_law 3 = .ok (.dup, 1) := by decide +kernel
theorem dL_law_4 : decode cL_law 4 = .ok (.invokespecial 9, 3) := by decide +kernel
theorem dL_law_7 : decode cL_law 7 = .ok (.astore_n 1, 1) := by decide +kernel
theorem dL_law_8 : decode cL_law 8 = .ok (.new 10, 3) := by decide +kernel
theorem dL_law_11 : decode cL_law 11 = .ok (.dup, 1) := by decide +kernel
theorem dL_law_12 : decode cL_law 12 = .ok (.invokespecial 12, 3) := by decide +kernel
theorem dL_law_15 : decode cL_law 15 = .ok (.astore_n 2, 1) := by decide +kernel
theorem dL_law_16 : decode cL_law 16 = .ok (.iconst 0, 1) := by decide +kernel
theorem dL_law_17 : decode cL_law 17 = .ok (.istore_n 3, 1) := by decide +kernel
theorem dL_law_18 : decode cL_law 18 = .ok (.iload_n 3, 1) := by decide +kernel
theorem dL_law_19 : decode cL_law 19 = .ok (.aload_n 0, 1) := by decide +kernel
theorem dL_law_20 : decode cL_law 20 = .ok (.arraylength, 1) := by decide +kernel
theorem dL_law_21 : decode cL_law 21 = .ok (.iconst 4, 1) := by decide +kernel
theorem dL_law_22 : decode cL_law 22 = .ok (.isub, 1) := by decide +kernel
theorem dL_law_23 : decode cL_law 23 = .ok (.if_icmp .gt 608, 3) := by decide +kernel
theorem dL_law_26 : decode cL_law 26 = .ok (.aload_n 0, 1) := by decide +kernel
theorem dL_law_27 : decode cL_law 27 = .ok (.iload_n 3, 1) := by decide +kernel
theorem dL_law_28 : decode cL_law 28 = .ok (.iaload, 1) := by decide +kernel
theorem dL_law_29 : decode cL_law 29 = .ok (.bipush 31, 2) := by decide +kernel
theorem dL_law_31 : decode cL_law 31 = .ok (.iand, 1) := by decide +kernel
theorem dL_law_32 : decode cL_law 32 = .ok (.tableswitch 593 0 17 #[88, 111, 154, 187, 210, 233, 246, 259, 283, 316, 339, 372, 415, 438, 481, 514, 547, 580], 88) := by decide +kernel
theorem dL_law_120 : decode cL_law 120 = .ok (.aload_n 1, 1) := by decide +kernel
theorem dL_law_121 : decode cL_law 121 = .ok (.aload_n 0, 1) := by decide +kernel
theorem dL_law_122 : decode cL_law 122 = .ok (.iload_n 3, 1) := by decide +kernel
theorem dL_law_123 : decode cL_law 123 = .ok (.iconst 1, 1) := by decide +kernel
theorem dL_law_124 : decode cL_law 124 = .ok (.iadd, 1) := by decide +kernel
theorem dL_law_125 : decode cL_law 125 = .ok (.iaload, 1) := by decide +kernel
theorem dL_law_126 : decode cL_law 126 = .ok (.invokevirtual 13, 3) := by decide +kernel
theorem dL_law_129 : decode cL_law 129 = .ok (.aload_n 2, 1) := by decide +kernel
theorem dL_law_130 : decode cL_law 130 = .ok (.aload_n 0, 1) := by decide +kernel
theorem dL_law_131 : decode cL_law 131 = .ok (.iload_n 3, 1) := by decide +kernel
theorem dL_law_132 : decode cL_law 132 = .ok (.iconst 1, 1) := by decide +kernel
theorem dL_law_133 : decode cL_law 133 = .ok (.iadd, 1) := by decide +kernel
theorem dL_law_134 : decode cL_law 134 = .ok (.iaload, 1) := by decide +kernel
theorem dL_law_135 : decode cL_law 135 = .ok (.invokevirtual 17, 3) := by decide +kernel
theorem dL_law_138 : decode cL_law 138 = .ok (.if_icmp .eq 487, 3) := by decide +kernel
theorem dL_law_141 : decode cL_law 141 = .ok (.iconst 0, 1) := by decide +kernel
theorem dL_law_142 : decode cL_law 142 = .ok (.ireturn, 1) := by decide +kernel
theorem dL_law_143 : decode cL_law 143 = .ok (.aload_n 1, 1) := by decide +kernel
theorem dL_law_144 : decode cL_law 144 = .ok (.aload_n 0, 1) := by decide +kernel
theorem dL_law_145 : decode cL_law 145 = .ok (.iload_n 3, 1) := by decide +kernel
theorem dL_law_146 : decode cL_law 146 = .ok (.iconst 1, 1) := by decide +kernel
theorem dL_law_147 : decode cL_law 147 = .ok (.iadd, 1) := by decide +kernel
theorem dL_law_148 : decode cL_law 148 = .ok (.iaload, 1) := by decide +kernel
theorem dL_law_149 : decode cL_law 149 = .ok (.aload_n 0, 1) := by decide +kernel
theorem dL_law_150 : decode cL_law 150 = .ok (.iload_n 3, 1) := by decide +kernel
theorem dL_law_151 : decode cL_law 151 = .ok (.iconst 2, 1) := by decide +kernel
theorem dL_law_152 : decode cL_law 152 = .ok (.iadd, 1) := by decide +kernel
theorem dL_law_153 : decode cL_law 153 = .ok (.iaload, 1) := by decide +kernel
theorem dL_law_154 : decode cL_law 154 = .ok (.aload_n 0, 1) := by decide +kernel
theorem dL_law_155 : decode cL_law 155 = .ok (.iload_n 3, 1) := by decide +kernel
theorem dL_law_156 : decode cL_law 156 = .ok (.iconst 3, 1) := by decide +kernel
theorem dL_law_157 : decode cL_law 157 = .ok (.iadd, 1) := by decide +kernel
theorem dL_law_158 : decode cL_law 158 = .ok (.iaload, 1) := by decide +kernel
theorem dL_law_159 : decode cL_law 159 = .ok (.invokevirtual 18, 3) := by decide +kernel
theorem dL_law_162 : decode cL_law 162 = .ok (.aload_n 2, 1) := by decide +kernel
theorem dL_law_163 : decode cL_law 163 = .ok (.aload_n 0, 1) := by decide +kernel
theorem dL_law_164 : decode cL_law 164 = .ok (.iload_n 3, 1) := by decide +kernel
theorem dL_law_165 : decode cL_law 165 = .ok (.iconst 1, 1) := by decide +kernel
theorem dL_law_166 : decode cL_law 166 = .ok (.iadd, 1) := by decide +kernel
theorem dL_law_167 : decode cL_law 167 = .ok (.iaload, 1) := by decide +kernel
theorem dL_law_168 : decode cL_law 168 = .ok (.aload_n 0, 1) := by decide +kernel
theorem dL_law_169 : decode cL_law 169 = .ok (.iload_n 3, 1) := by decide +kernel
theorem dL_law_170 : decode cL_law 170 = .ok (.iconst 2, 1) := by decide +kernel
theorem dL_law_171 : decode cL_law 171 = .ok (.iadd, 1) := by decide +kernel
theorem dL_law_172 : decode cL_law 172 = .ok (.iaload, 1) := by decide +kernel
theorem dL_law_173 : decode cL_law 173 = .ok (.aload_n 0, 1) := by decide +kernel
theorem dL_law_174 : decode cL_law 174 = .ok (.iload_n 3, 1) := by decide +kernel
theorem dL_law_175 : decode cL_law 175 = .ok (.iconst 3, 1) := by decide +kernel
theorem dL_law_176 : decode cL_law 176 = .ok (.iadd, 1) := by decide +kernel
theorem dL_law_177 : decode cL_law 177 = .ok (.iaload, 1) := by decide +kernel
theorem dL_law_178 : decode cL_law 178 = .ok (.invokevirtual 22, 3) := by decide +kernel
theorem dL_law_181 : decode cL_law 181 = .ok (.if_icmp .eq 444, 3) := by decide +kernel
theorem dL_law_184 : decode cL_law 184 = .ok (.iconst 0, 1) := by decide +kernel
theorem dL_law_185 : decode cL_law 185 = .ok (.ireturn, 1) := by decide +kernel
theorem dL_law_186 : decode cL_law 186 = .ok (.aload_n 1, 1) := by decide +kernel
theorem dL_law_187 : decode cL_law 187 = .ok (.aload_n 0, 1) := by decide +kernel
theorem dL_law_188 : decode cL_law 188 = .ok (.iload_n 3, 1) := by decide +kernel
theorem dL_law_189 : decode cL_law 189 = .ok (.iconst 1, 1) := by decide +kernel
theorem dL_law_190 : decode cL_law 190 = .ok (.iadd, 1) := by decide +kernel
theorem dL_law_191 : decode cL_law 191 = .ok (.iaload, 1) := by decide +kernel
theorem dL_law_192 : decode cL_law 192 = .ok (.aload_n 0, 1) := by decide +kernel
theorem dL_law_193 : decode cL_law 193 = .ok (.iload_n 3, 1) := by decide +kernel
theorem dL_law_194 : decode cL_law 194 = .ok (.iconst 2, 1) := by decide +kernel
theorem dL_law_195 : decode cL_law 195 = .ok (.iadd, 1) := by decide +kernel
theorem dL_law_196 : decode cL_law 196 = .ok (.iaload, 1) := by decide +kernel
theorem dL_law_197 : decode cL_law 197 = .ok (.invokevirtual 23, 3) := by decide +kernel
theorem dL_law_200 : decode cL_law 200 = .ok (.aload_n 2, 1) := by decide +kernel
theorem dL_law_201 : decode cL_law 201 = .ok (.aload_n 0, 1) := by decide +kernel
theorem dL_law_202 : decode cL_law 202 = .ok (.iload_n 3, 1) := by decide +kernel
theorem dL_law_203 : decode cL_law 203 = .ok (.iconst 1, 1) := by decide +kernel
theorem dL_law_204 : decode cL_law 204 = .ok (.iadd, 1) := by decide +kernel
theorem dL_law_205 : decode cL_law 205 = .ok (.iaload, 1) := by decide +kernel
theorem dL_law_206 : decode cL_law 206 = .ok (.aload_n 0, 1) := by decide +kernel
theorem dL_law_207 : decode cL_law 207 = .ok (.iload_n 3, 1) := by decide +kernel
theorem dL_law_208 : decode cL_law 208 = .ok (.iconst 2, 1) := by decide +kernel
theorem dL_law_209 : decode cL_law 209 = .ok (.iadd, 1) := by decide +kernel
theorem dL_law_210 : decode cL_law 210 = .ok (.iaload, 1) := by decide +kernel
theorem dL_law_211 : decode cL_law 211 = .ok (.invokevirtual 27, 3) := by decide +kernel
theorem dL_law_214 : decode cL_law 214 = .ok (.if_icmp .eq 411, 3) := by decide +kernel
theorem dL_law_217 : decode cL_law 217 = .ok (.iconst 0, 1) := by decide +kernel
theorem dL_law_218 : decode cL_law 218 = .ok (.ireturn, 1) := by decide +kernel
theorem dL_law_219 : decode cL_law 219 = .ok (.aload_n 1, 1) := by decide +kernel
theorem dL_law_220 : decode cL_law 220 = .ok (.aload_n 0, 1) := by decide +kernel
theorem dL_law_221 : decode cL_law 221 = .ok (.iload_n 3, 1) := by decide +kernel
theorem dL_law_222 : decode cL_law 222 = .ok (.iconst 1, 1) := by decide +kernel
theorem dL_law_223 : decode cL_law 223 = .ok (.iadd, 1) := by decide +kernel
theorem dL_law_224 : decode cL_law 224 = .ok (.iaload, 1) := by decide +kernel
theorem dL_law_225 : decode cL_law 225 = .ok (.invokevirtual 28, 3) := by decide +kernel
theorem dL_law_228 : decode cL_law 228 = .ok (.aload_n 2, 1) := by decide +kernel
theorem dL_law_229 : decode cL_law 229 = .ok (.aload_n 0, 1) := by decide +kernel
theorem dL_law_230 : decode cL_law 230 = .ok (.iload_n 3, 1) := by decide +kernel
theorem dL_law_231 : decode cL_law 231 = .ok (.iconst 1, 1) := by decide +kernel
theorem dL_law_232 : decode cL_law 232 = .ok (.iadd, 1) := by decide +kernel
theorem dL_law_233 : decode cL_law 233 = .ok (.iaload, 1) := by decide +kernel
theorem dL_law_234 : decode cL_law 234 = .ok (.invokevirtual 31, 3) := by decide +kernel
theorem dL_law_237 : decode cL_law 237 = .ok (.if_icmp .eq 388, 3) := by decide +kernel
theorem dL_law_240 : decode cL_law 240 = .ok (.iconst 0, 1) := by decide +kernel
theorem dL_law_241 : decode cL_law 241 = .ok (.ireturn, 1) := by decide +kernel
theorem dL_law_242 : decode cL_law 242 = .ok (.aload_n 1, 1) := by decide +kernel
theorem dL_law_243 : decode cL_law 243 = .ok (.aload_n 0, 1) := by decide +kernel
theorem dL_law_244 : decode cL_law 244 = .ok (.iload_n 3, 1) := by decide +kernel
theorem dL_law_245 : decode cL_law 245 = .ok (.iconst 1, 1) := by decide +kernel
theorem dL_law_246 : decode cL_law 246 = .ok (.iadd, 1) := by decide +kernel
theorem dL_law_247 : decode cL_law 247 = .ok (.iaload, 1) := by decide +kernel
theorem dL_law_248 : decode cL_law 248 = .ok (.invokevirtual 32, 3) := by decide +kernel
theorem dL_law_251 : decode cL_law 251 = .ok (.aload_n 2, 1) := by decide +kernel
theorem dL_law_252 : decode cL_law 252 = .ok (.aload_n 0, 1) := by decide +kernel
theorem dL_law_253 : decode cL_law 253 = .ok (.iload_n 3, 1) := by decide +kernel
theorem dL_law_254 : decode cL_law 254 = .ok (.iconst 1, 1) := by decide +kernel
theorem dL_law_255 : decode cL_law 255 = .ok (.iadd, 1) := by decide +kernel
theorem dL_law_256 : decode cL_law 256 = .ok (.iaload, 1) := by decide +kernel
theorem dL_law_257 : decode cL_law 257 = .ok (.invokevirtual 35, 3) := by decide +kernel
theorem dL_law_260 : decode cL_law 260 = .ok (.if_icmp .eq 365, 3) := by decide +kernel
theorem dL_law_263 : decode cL_law 263 = .ok (.iconst 0, 1) := by decide +kernel
theorem dL_law_264 : decode cL_law 264 = .ok (.ireturn, 1) := by decide +kernel
theorem dL_law_265 : decode cL_law 265 = .ok (.aload_n 1, 1) := by decide +kernel
theorem dL_law_266 : decode cL_law 266 = .ok (.invokevirtual 36, 3) := by decide +kernel
theorem dL_law_269 : decode cL_law 269 = .ok (.aload_n 2, 1) := by decide +kernel
theorem dL_law_270 : decode cL_law 270 = .ok (.invokevirtual 40, 3) := by decide +kernel
theorem dL_law_273 : decode cL_law 273 = .ok (.if_icmp .eq 352, 3) := by decide +kernel
theorem dL_law_276 : decode cL_law 276 = .ok (.iconst 0, 1) := by decide +kernel
theorem dL_law_277 : decode cL_law 277 = .ok (.ireturn, 1) := by decide +kernel
theorem dL_law_278 : decode cL_law 278 = .ok (.aload_n 1, 1) := by decide +kernel
theorem dL_law_279 : decode cL_law 279 = .ok (.invokevirtual 41, 3) := by decide +kernel
theorem dL_law_282 : decode cL_law 282 = .ok (.aload_n 2, 1) := by decide +kernel
theorem dL_law_283 : decode cL_law 283 = .ok (.invokevirtual 44, 3) := by decide +kernel
theorem dL_law_286 : decode cL_law 286 = .ok (.if_icmp .eq 339, 3) := by decide +kernel
theorem dL_law_289 : decode cL_law 289 = .ok (.iconst 0, 1) := by decide +kernel
theorem dL_law_290 : decode cL_law 290 = .ok (.ireturn, 1) := by decide +kernel
theorem dL_law_291 : decode cL_law 291 = .ok (.aload_n 1, 1) := by decide +kernel
theorem dL_law_292 : decode cL_law 292 = .ok (.aload_n 0, 1) := by decide +kernel
theorem dL_law_293 : decode cL_law 293 = .ok (.iload_n 3, 1) := by decide +kernel
theorem dL_law_294 : decode cL_law 294 = .ok (.iconst 1, 1) := by decide +kernel
theorem dL_law_295 : decode cL_law 295 = .ok (.iadd, 1) := by decide +kernel
theorem dL_law_296 : decode cL_law 296 = .ok (.iaload, 1) := by decide +kernel
theorem dL_law_297 : decode cL_law 297 = .ok (.invokevirtual 45, 3) := by decide +kernel
theorem dL_law_300 : decode cL_law 300 = .ok (.aload_n 2, 1) := by decide +kernel
theorem dL_law_301 : decode cL_law 301 = .ok (.aload_n 0, 1) := by decide +kernel
theorem dL_law_302 : decode cL_law 302 = .ok (.iload_n 3, 1) := by decide +kernel
theorem dL_law_303 : decode cL_law 303 = .ok (.iconst 1, 1) := by decide +kernel
theorem dL_law_304 : decode cL_law 304 = .ok (.iadd, 1) := by decide +kernel
theorem dL_law_305 : decode cL_law 305 = .ok (.iaload, 1) := by decide +kernel
theorem dL_law_306 : decode cL_law 306 = .ok (.invokevirtual 49, 3) := by decide +kernel
theorem dL_law_309 : decode cL_law 309 = .ok (.lcmp, 1) := by decide +kernel
theorem dL_law_310 : decode cL_law 310 = .ok (.ifCond .eq 315, 3) := by decide +kernel
theorem dL_law_313 : decode cL_law 313 = .ok (.iconst 0, 1) := by decide +kernel
theorem dL_law_314 : decode cL_law 314 = .ok (.ireturn, 1) := by decide +kernel
theorem dL_law_315 : decode cL_law 315 = .ok (.aload_n 1, 1) := by decide +kernel
theorem dL_law_316 : decode cL_law 316 = .ok (.aload_n 0, 1) := by decide +kernel
theorem dL_law_317 : decode cL_law 317 = .ok (.iload_n 3, 1) := by decide +kernel
theorem dL_law_318 : decode cL_law 318 = .ok (.iconst 1, 1) := by decide +kernel
theorem dL_law_319 : decode cL_law 319 = .ok (.iadd, 1) := by decide +kernel
theorem dL_law_320 : decode cL_law 320 = .ok (.iaload, 1) := by decide +kernel
theorem dL_law_321 : decode cL_law 321 = .ok (.aload_n 0, 1) := by decide +kernel
theorem dL_law_322 : decode cL_law 322 = .ok (.iload_n 3, 1) := by decide +kernel
theorem dL_law_323 : decode cL_law 323 = .ok (.iconst 2, 1) := by decide +kernel
theorem dL_law_324 : decode cL_law 324 = .ok (.iadd, 1) := by decide +kernel
theorem dL_law_325 : decode cL_law 325 = .ok (.iaload, 1) := by decide +kernel
theorem dL_law_326 : decode cL_law 326 = .ok (.invokevirtual 50, 3) := by decide +kernel
theorem dL_law_329 : decode cL_law 329 = .ok (.aload_n 2, 1) := by decide +kernel
theorem dL_law_330 : decode cL_law 330 = .ok (.aload_n 0, 1) := by decide +kernel
theorem dL_law_331 : decode cL_law 331 = .ok (.iload_n 3, 1) := by decide +kernel
theorem dL_law_332 : decode cL_law 332 = .ok (.iconst 1, 1) := by decide +kernel
theorem dL_law_333 : decode cL_law 333 = .ok (.iadd, 1) := by decide +kernel
theorem dL_law_334 : decode cL_law 334 = .ok (.iaload, 1) := by decide +kernel
theorem dL_law_335 : decode cL_law 335 = .ok (.aload_n 0, 1) := by decide +kernel
theorem dL_law_336 : decode cL_law 336 = .ok (.iload_n 3, 1) := by decide +kernel
theorem dL_law_337 : decode cL_law 337 = .ok (.iconst 2, 1) := by decide +kernel
theorem dL_law_338 : decode cL_law 338 = .ok (.iadd, 1) := by decide +kernel
theorem dL_law_339 : decode cL_law 339 = .ok (.iaload, 1) := by decide +kernel
theorem dL_law_340 : decode cL_law 340 = .ok (.invokevirtual 53, 3) := by decide +kernel
theorem dL_law_343 : decode cL_law 343 = .ok (.if_icmp .eq 282, 3) := by decide +kernel
theorem dL_law_346 : decode cL_law 346 = .ok (.iconst 0, 1) := by decide +kernel
theorem dL_law_347 : decode cL_law 347 = .ok (.ireturn, 1) := by decide +kernel
theorem dL_law_348 : decode cL_law 348 = .ok (.aload_n 1, 1) := by decide +kernel
theorem dL_law_349 : decode cL_law 349 = .ok (.aload_n 0, 1) := by decide +kernel
theorem dL_law_350 : decode cL_law 350 = .ok (.iload_n 3, 1) := by decide +kernel
theorem dL_law_351 : decode cL_law 351 = .ok (.iconst 1, 1) := by decide +kernel
theorem dL_law_352 : decode cL_law 352 = .ok (.iadd, 1) := by decide +kernel
theorem dL_law_353 : decode cL_law 353 = .ok (.iaload, 1) := by decide +kernel
theorem dL_law_354 : decode cL_law 354 = .ok (.invokevirtual 54, 3) := by decide +kernel
theorem dL_law_357 : decode cL_law 357 = .ok (.aload_n 2, 1) := by decide +kernel
theorem dL_law_358 : decode cL_law 358 = .ok (.aload_n 0, 1) := by decide +kernel
theorem dL_law_359 : decode cL_law 359 = .ok (.iload_n 3, 1) := by decide +kernel
theorem dL_law_360 : decode cL_law 360 = .ok (.iconst 1, 1) := by decide +kernel
theorem dL_law_361 : decode cL_law 361 = .ok (.iadd, 1) := by decide +kernel
theorem dL_law_362 : decode cL_law 362 = .ok (.iaload, 1) := by decide +kernel
theorem dL_law_363 : decode cL_law 363 = .ok (.invokevirtual 57, 3) := by decide +kernel
theorem dL_law_366 : decode cL_law 366 = .ok (.if_icmp .eq 259, 3) := by decide +kernel
theorem dL_law_369 : decode cL_law 369 = .ok (.iconst 0, 1) := by decide +kernel
theorem dL_law_370 : decode cL_law 370 = .ok (.ireturn, 1) := by decide +kernel
theorem dL_law_371 : decode cL_law 371 = .ok (.aload_n 1, 1) := by decide +kernel
theorem dL_law_372 : decode cL_law 372 = .ok (.aload_n 0, 1) := by decide +kernel
theorem dL_law_373 : decode cL_law 373 = .ok (.iload_n 3, 1) := by decide +kernel
theorem dL_law_374 : decode cL_law 374 = .ok (.iconst 1, 1) := by decide +kernel
theorem dL_law_375 : decode cL_law 375 = .ok (.iadd, 1) := by decide +kernel
theorem dL_law_376 : decode cL_law 376 = .ok (.iaload, 1) := by decide +kernel
theorem dL_law_377 : decode cL_law 377 = .ok (.aload_n 0, 1) := by decide +kernel
theorem dL_law_378 : decode cL_law 378 = .ok (.iload_n 3, 1) := by decide +kernel
theorem dL_law_379 : decode cL_law 379 = .ok (.iconst 2, 1) := by decide +kernel
theorem dL_law_380 : decode cL_law 380 = .ok (.iadd, 1) := by decide +kernel
theorem dL_law_381 : decode cL_law 381 = .ok (.iaload, 1) := by decide +kernel
theorem dL_law_382 : decode cL_law 382 = .ok (.invokevirtual 58, 3) := by decide +kernel
theorem dL_law_385 : decode cL_law 385 = .ok (.aload_n 2, 1) := by decide +kernel
theorem dL_law_386 : decode cL_law 386 = .ok (.aload_n 0, 1) := by decide +kernel
theorem dL_law_387 : decode cL_law 387 = .ok (.iload_n 3, 1) := by decide +kernel
theorem dL_law_388 : decode cL_law 388 = .ok (.iconst 1, 1) := by decide +kernel
theorem dL_law_389 : decode cL_law 389 = .ok (.iadd, 1) := by decide +kernel
theorem dL_law_390 : decode cL_law 390 = .ok (.iaload, 1) := by decide +kernel
theorem dL_law_391 : decode cL_law 391 = .ok (.aload_n 0, 1) := by decide +kernel
theorem dL_law_392 : decode cL_law 392 = .ok (.iload_n 3, 1) := by decide +kernel
theorem dL_law_393 : decode cL_law 393 = .ok (.iconst 2, 1) := by decide +kernel
theorem dL_law_394 : decode cL_law 394 = .ok (.iadd, 1) := by decide +kernel
theorem dL_law_395 : decode cL_law 395 = .ok (.iaload, 1) := by decide +kernel
theorem dL_law_396 : decode cL_law 396 = .ok (.invokevirtual 61, 3) := by decide +kernel
theorem dL_law_399 : decode cL_law 399 = .ok (.if_icmp .eq 226, 3) := by decide +kernel
theorem dL_law_402 : decode cL_law 402 = .ok (.iconst 0, 1) := by decide +kernel
theorem dL_law_403 : decode cL_law 403 = .ok (.ireturn, 1) := by decide +kernel
theorem dL_law_404 : decode cL_law 404 = .ok (.aload_n 1, 1) := by decide +kernel
theorem dL_law_405 : decode cL_law 405 = .ok (.aload_n 0, 1) := by decide +kernel
theorem dL_law_406 : decode cL_law 406 = .ok (.iload_n 3, 1) := by decide +kernel
theorem dL_law_407 : decode cL_law 407 = .ok (.iconst 1, 1) := by decide +kernel
theorem dL_law_408 : decode cL_law 408 = .ok (.iadd, 1) := by decide +kernel
theorem dL_law_409 : decode cL_law 409 = .ok (.iaload, 1) := by decide +kernel
theorem dL_law_410 : decode cL_law 410 = .ok (.aload_n 0, 1) := by decide +kernel
theorem dL_law_411 : decode cL_law 411 = .ok (.iload_n 3, 1) := by decide +kernel
theorem dL_law_412 : decode cL_law 412 = .ok (.iconst 2, 1) := by decide +kernel
theorem dL_law_413 : decode cL_law 413 = .ok (.iadd, 1) := by decide +kernel
theorem dL_law_414 : decode cL_law 414 = .ok (.iaload, 1) := by decide +kernel
theorem dL_law_415 : decode cL_law 415 = .ok (.aload_n 0, 1) := by decide +kernel
theorem dL_law_416 : decode cL_law 416 = .ok (.iload_n 3, 1) := by decide +kernel
theorem dL_law_417 : decode cL_law 417 = .ok (.iconst 3, 1) := by decide +kernel
theorem dL_law_418 : decode cL_law 418 = .ok (.iadd, 1) := by decide +kernel
theorem dL_law_419 : decode cL_law 419 = .ok (.iaload, 1) := by decide +kernel
theorem dL_law_420 : decode cL_law 420 = .ok (.invokevirtual 62, 3) := by decide +kernel
theorem dL_law_423 : decode cL_law 423 = .ok (.aload_n 2, 1) := by decide +kernel
theorem dL_law_424 : decode cL_law 424 = .ok (.aload_n 0, 1) := by decide +kernel
theorem dL_law_425 : decode cL_law 425 = .ok (.iload_n 3, 1) := by decide +kernel
theorem dL_law_426 : decode cL_law 426 = .ok (.iconst 1, 1) := by decide +kernel
theorem dL_law_427 : decode cL_law 427 = .ok (.iadd, 1) := by decide +kernel
theorem dL_law_428 : decode cL_law 428 = .ok (.iaload, 1) := by decide +kernel
theorem dL_law_429 : decode cL_law 429 = .ok (.aload_n 0, 1) := by decide +kernel
theorem dL_law_430 : decode cL_law 430 = .ok (.iload_n 3, 1) := by decide +kernel
theorem dL_law_431 : decode cL_law 431 = .ok (.iconst 2, 1) := by decide +kernel
theorem dL_law_432 : decode cL_law 432 = .ok (.iadd, 1) := by decide +kernel
theorem dL_law_433 : decode cL_law 433 = .ok (.iaload, 1) := by decide +kernel
theorem dL_law_434 : decode cL_law 434 = .ok (.aload_n 0, 1) := by decide +kernel
theorem dL_law_435 : decode cL_law 435 = .ok (.iload_n 3, 1) := by decide +kernel
theorem dL_law_436 : decode cL_law 436 = .ok (.iconst 3, 1) := by decide +kernel
theorem dL_law_437 : decode cL_law 437 = .ok (.iadd, 1) := by decide +kernel
theorem dL_law_438 : decode cL_law 438 = .ok (.iaload, 1) := by decide +kernel
theorem dL_law_439 : decode cL_law 439 = .ok (.invokevirtual 65, 3) := by decide +kernel
theorem dL_law_442 : decode cL_law 442 = .ok (.if_icmp .eq 183, 3) := by decide +kernel
theorem dL_law_445 : decode cL_law 445 = .ok (.iconst 0, 1) := by decide +kernel
theorem dL_law_446 : decode cL_law 446 = .ok (.ireturn, 1) := by decide +kernel
theorem dL_law_447 : decode cL_law 447 = .ok (.aload_n 1, 1) := by decide +kernel
theorem dL_law_448 : decode cL_law 448 = .ok (.aload_n 0, 1) := by decide +kernel
theorem dL_law_449 : decode cL_law 449 = .ok (.iload_n 3, 1) := by decide +kernel
theorem dL_law_450 : decode cL_law 450 = .ok (.iconst 1, 1) := by decide +kernel
theorem dL_law_451 : decode cL_law 451 = .ok (.iadd, 1) := by decide +kernel
theorem dL_law_452 : decode cL_law 452 = .ok (.iaload, 1) := by decide +kernel
theorem dL_law_453 : decode cL_law 453 = .ok (.invokevirtual 66, 3) := by decide +kernel
theorem dL_law_456 : decode cL_law 456 = .ok (.aload_n 2, 1) := by decide +kernel
theorem dL_law_457 : decode cL_law 457 = .ok (.aload_n 0, 1) := by decide +kernel
theorem dL_law_458 : decode cL_law 458 = .ok (.iload_n 3, 1) := by decide +kernel
theorem dL_law_459 : decode cL_law 459 = .ok (.iconst 1, 1) := by decide +kernel
theorem dL_law_460 : decode cL_law 460 = .ok (.iadd, 1) := by decide +kernel
theorem dL_law_461 : decode cL_law 461 = .ok (.iaload, 1) := by decide +kernel
theorem dL_law_462 : decode cL_law 462 = .ok (.invokevirtual 69, 3) := by decide +kernel
theorem dL_law_465 : decode cL_law 465 = .ok (.if_icmp .eq 160, 3) := by decide +kernel
theorem dL_law_468 : decode cL_law 468 = .ok (.iconst 0, 1) := by decide +kernel
theorem dL_law_469 : decode cL_law 469 = .ok (.ireturn, 1) := by decide +kernel
theorem dL_law_470 : decode cL_law 470 = .ok (.aload_n 1, 1) := by decide +kernel
theorem dL_law_471 : decode cL_law 471 = .ok (.aload_n 0, 1) := by decide +kernel
theorem dL_law_472 : decode cL_law 472 = .ok (.iload_n 3, 1) := by decide +kernel
theorem dL_law_473 : decode cL_law 473 = .ok (.iconst 1, 1) := by decide +kernel
theorem dL_law_474 : decode cL_law 474 = .ok (.iadd, 1) := by decide +kernel
theorem dL_law_475 : decode cL_law 475 = .ok (.iaload, 1) := by decide +kernel
theorem dL_law_476 : decode cL_law 476 = .ok (.aload_n 0, 1) := by decide +kernel
theorem dL_law_477 : decode cL_law 477 = .ok (.iload_n 3, 1) := by decide +kernel
theorem dL_law_478 : decode cL_law 478 = .ok (.iconst 2, 1) := by decide +kernel
theorem dL_law_479 : decode cL_law 479 = .ok (.iadd, 1) := by decide +kernel
theorem dL_law_480 : decode cL_law 480 = .ok (.iaload, 1) := by decide +kernel
theorem dL_law_481 : decode cL_law 481 = .ok (.aload_n 0, 1) := by decide +kernel
theorem dL_law_482 : decode cL_law 482 = .ok (.iload_n 3, 1) := by decide +kernel
theorem dL_law_483 : decode cL_law 483 = .ok (.iconst 3, 1) := by decide +kernel
theorem dL_law_484 : decode cL_law 484 = .ok (.iadd, 1) := by decide +kernel
theorem dL_law_485 : decode cL_law 485 = .ok (.iaload, 1) := by decide +kernel
theorem dL_law_486 : decode cL_law 486 = .ok (.invokevirtual 70, 3) := by decide +kernel
theorem dL_law_489 : decode cL_law 489 = .ok (.aload_n 2, 1) := by decide +kernel
theorem dL_law_490 : decode cL_law 490 = .ok (.aload_n 0, 1) := by decide +kernel
theorem dL_law_491 : decode cL_law 491 = .ok (.iload_n 3, 1) := by decide +kernel
theorem dL_law_492 : decode cL_law 492 = .ok (.iconst 1, 1) := by decide +kernel
theorem dL_law_493 : decode cL_law 493 = .ok (.iadd, 1) := by decide +kernel
theorem dL_law_494 : decode cL_law 494 = .ok (.iaload, 1) := by decide +kernel
theorem dL_law_495 : decode cL_law 495 = .ok (.aload_n 0, 1) := by decide +kernel
theorem dL_law_496 : decode cL_law 496 = .ok (.iload_n 3, 1) := by decide +kernel
theorem dL_law_497 : decode cL_law 497 = .ok (.iconst 2, 1) := by decide +kernel
theorem dL_law_498 : decode cL_law 498 = .ok (.iadd, 1) := by decide +kernel
theorem dL_law_499 : decode cL_law 499 = .ok (.iaload, 1) := by decide +kernel
theorem dL_law_500 : decode cL_law 500 = .ok (.aload_n 0, 1) := by decide +kernel
theorem dL_law_501 : decode cL_law 501 = .ok (.iload_n 3, 1) := by decide +kernel
theorem dL_law_502 : decode cL_law 502 = .ok (.iconst 3, 1) := by decide +kernel
theorem dL_law_503 : decode cL_law 503 = .ok (.iadd, 1) := by decide +kernel
theorem dL_law_504 : decode cL_law 504 = .ok (.iaload, 1) := by decide +kernel
theorem dL_law_505 : decode cL_law 505 = .ok (.invokevirtual 73, 3) := by decide +kernel
theorem dL_law_508 : decode cL_law 508 = .ok (.if_icmp .eq 117, 3) := by decide +kernel
theorem dL_law_511 : decode cL_law 511 = .ok (.iconst 0, 1) := by decide +kernel
theorem dL_law_512 : decode cL_law 512 = .ok (.ireturn, 1) := by decide +kernel
theorem dL_law_513 : decode cL_law 513 = .ok (.aload_n 1, 1) := by decide +kernel
theorem dL_law_514 : decode cL_law 514 = .ok (.aload_n 0, 1) := by decide +kernel
theorem dL_law_515 : decode cL_law 515 = .ok (.iload_n 3, 1) := by decide +kernel
theorem dL_law_516 : decode cL_law 516 = .ok (.iconst 1, 1) := by decide +kernel
theorem dL_law_517 : decode cL_law 517 = .ok (.iadd, 1) := by decide +kernel
theorem dL_law_518 : decode cL_law 518 = .ok (.iaload, 1) := by decide +kernel
theorem dL_law_519 : decode cL_law 519 = .ok (.aload_n 0, 1) := by decide +kernel
theorem dL_law_520 : decode cL_law 520 = .ok (.iload_n 3, 1) := by decide +kernel
theorem dL_law_521 : decode cL_law 521 = .ok (.iconst 2, 1) := by decide +kernel
theorem dL_law_522 : decode cL_law 522 = .ok (.iadd, 1) := by decide +kernel
theorem dL_law_523 : decode cL_law 523 = .ok (.iaload, 1) := by decide +kernel
theorem dL_law_524 : decode cL_law 524 = .ok (.invokevirtual 74, 3) := by decide +kernel
theorem dL_law_527 : decode cL_law 527 = .ok (.aload_n 2, 1) := by decide +kernel
theorem dL_law_528 : decode cL_law 528 = .ok (.aload_n 0, 1) := by decide +kernel
theorem dL_law_529 : decode cL_law 529 = .ok (.iload_n 3, 1) := by decide +kernel
theorem dL_law_530 : decode cL_law 530 = .ok (.iconst 1, 1) := by decide +kernel
theorem dL_law_531 : decode cL_law 531 = .ok (.iadd, 1) := by decide +kernel
theorem dL_law_532 : decode cL_law 532 = .ok (.iaload, 1) := by decide +kernel
theorem dL_law_533 : decode cL_law 533 = .ok (.aload_n 0, 1) := by decide +kernel
theorem dL_law_534 : decode cL_law 534 = .ok (.iload_n 3, 1) := by decide +kernel
theorem dL_law_535 : decode cL_law 535 = .ok (.iconst 2, 1) := by decide +kernel
theorem dL_law_536 : decode cL_law 536 = .ok (.iadd, 1) := by decide +kernel
theorem dL_law_537 : decode cL_law 537 = .ok (.iaload, 1) := by decide +kernel
theorem dL_law_538 : decode cL_law 538 = .ok (.invokevirtual 77, 3) := by decide +kernel
theorem dL_law_541 : decode cL_law 541 = .ok (.if_icmp .eq 84, 3) := by decide +kernel
theorem dL_law_544 : decode cL_law 544 = .ok (.iconst 0, 1) := by decide +kernel
theorem dL_law_545 : decode cL_law 545 = .ok (.ireturn, 1) := by decide +kernel
theorem dL_law_546 : decode cL_law 546 = .ok (.aload_n 1, 1) := by decide +kernel
theorem dL_law_547 : decode cL_law 547 = .ok (.aload_n 0, 1) := by decide +kernel
theorem dL_law_548 : decode cL_law 548 = .ok (.iload_n 3, 1) := by decide +kernel
theorem dL_law_549 : decode cL_law 549 = .ok (.iconst 1, 1) := by decide +kernel
theorem dL_law_550 : decode cL_law 550 = .ok (.iadd, 1) := by decide +kernel
theorem dL_law_551 : decode cL_law 551 = .ok (.iaload, 1) := by decide +kernel
theorem dL_law_552 : decode cL_law 552 = .ok (.aload_n 0, 1) := by decide +kernel
theorem dL_law_553 : decode cL_law 553 = .ok (.iload_n 3, 1) := by decide +kernel
theorem dL_law_554 : decode cL_law 554 = .ok (.iconst 2, 1) := by decide +kernel
theorem dL_law_555 : decode cL_law 555 = .ok (.iadd, 1) := by decide +kernel
theorem dL_law_556 : decode cL_law 556 = .ok (.iaload, 1) := by decide +kernel
theorem dL_law_557 : decode cL_law 557 = .ok (.invokevirtual 78, 3) := by decide +kernel
theorem dL_law_560 : decode cL_law 560 = .ok (.aload_n 2, 1) := by decide +kernel
theorem dL_law_561 : decode cL_law 561 = .ok (.aload_n 0, 1) := by decide +kernel
theorem dL_law_562 : decode cL_law 562 = .ok (.iload_n 3, 1) := by decide +kernel
theorem dL_law_563 : decode cL_law 563 = .ok (.iconst 1, 1) := by decide +kernel
theorem dL_law_564 : decode cL_law 564 = .ok (.iadd, 1) := by decide +kernel
theorem dL_law_565 : decode cL_law 565 = .ok (.iaload, 1) := by decide +kernel
theorem dL_law_566 : decode cL_law 566 = .ok (.aload_n 0, 1) := by decide +kernel
theorem dL_law_567 : decode cL_law 567 = .ok (.iload_n 3, 1) := by decide +kernel
theorem dL_law_568 : decode cL_law 568 = .ok (.iconst 2, 1) := by decide +kernel
theorem dL_law_569 : decode cL_law 569 = .ok (.iadd, 1) := by decide +kernel
theorem dL_law_570 : decode cL_law 570 = .ok (.iaload, 1) := by decide +kernel
theorem dL_law_571 : decode cL_law 571 = .ok (.invokevirtual 81, 3) := by decide +kernel
theorem dL_law_574 : decode cL_law 574 = .ok (.if_icmp .eq 51, 3) := by decide +kernel
theorem dL_law_577 : decode cL_law 577 = .ok (.iconst 0, 1) := by decide +kernel
theorem dL_law_578 : decode cL_law 578 = .ok (.ireturn, 1) := by decide +kernel
theorem dL_law_579 : decode cL_law 579 = .ok (.aload_n 1, 1) := by decide +kernel
theorem dL_law_580 : decode cL_law 580 = .ok (.aload_n 0, 1) := by decide +kernel
theorem dL_law_581 : decode cL_law 581 = .ok (.iload_n 3, 1) := by decide +kernel
theorem dL_law_582 : decode cL_law 582 = .ok (.iconst 1, 1) := by decide +kernel
theorem dL_law_583 : decode cL_law 583 = .ok (.iadd, 1) := by decide +kernel
theorem dL_law_584 : decode cL_law 584 = .ok (.iaload, 1) := by decide +kernel
theorem dL_law_585 : decode cL_law 585 = .ok (.aload_n 0, 1) := by decide +kernel
theorem dL_law_586 : decode cL_law 586 = .ok (.iload_n 3, 1) := by decide +kernel
theorem dL_law_587 : decode cL_law 587 = .ok (.iconst 2, 1) := by decide +kernel
theorem dL_law_588 : decode cL_law 588 = .ok (.iadd, 1) := by decide +kernel
theorem dL_law_589 : decode cL_law 589 = .ok (.iaload, 1) := by decide +kernel
theorem dL_law_590 : decode cL_law 590 = .ok (.invokevirtual 82, 3) := by decide +kernel
theorem dL_law_593 : decode cL_law 593 = .ok (.aload_n 2, 1) := by decide +kernel
theorem dL_law_594 : decode cL_law 594 = .ok (.aload_n 0, 1) := by decide +kernel
theorem dL_law_595 : decode cL_law 595 = .ok (.iload_n 3, 1) := by decide +kernel
theorem dL_law_596 : decode cL_law 596 = .ok (.iconst 1, 1) := by decide +kernel
theorem dL_law_597 : decode cL_law 597 = .ok (.iadd, 1) := by decide +kernel
theorem dL_law_598 : decode cL_law 598 = .ok (.iaload, 1) := by decide +kernel
theorem dL_law_599 : decode cL_law 599 = .ok (.aload_n 0, 1) := by decide +kernel
theorem dL_law_600 : decode cL_law 600 = .ok (.iload_n 3, 1) := by decide +kernel
theorem dL_law_601 : decode cL_law 601 = .ok (.iconst 2, 1) := by decide +kernel
theorem dL_law_602 : decode cL_law 602 = .ok (.iadd, 1) := by decide +kernel
theorem dL_law_603 : decode cL_law 603 = .ok (.iaload, 1) := by decide +kernel
theorem dL_law_604 : decode cL_law 604 = .ok (.invokevirtual 85, 3) := by decide +kernel
theorem dL_law_607 : decode cL_law 607 = .ok (.if_icmp .eq 18, 3) := by decide +kernel
theorem dL_law_610 : decode cL_law 610 = .ok (.iconst 0, 1) := by decide +kernel
theorem dL_law_611 : decode cL_law 611 = .ok (.ireturn, 1) := by decide +kernel
theorem dL_law_612 : decode cL_law 612 = .ok (.aload_n 1, 1) := by decide +kernel
theorem dL_law_613 : decode cL_law 613 = .ok (.invokevirtual 86, 3) := by decide +kernel
theorem dL_law_616 : decode cL_law 616 = .ok (.aload_n 2, 1) := by decide +kernel
theorem dL_law_617 : decode cL_law 617 = .ok (.invokevirtual 89, 3) := by decide +kernel
theorem dL_law_620 : decode cL_law 620 = .ok (.if_icmp .eq 5, 3) := by decide +kernel
theorem dL_law_623 : decode cL_law 623 = .ok (.iconst 0, 1) := by decide +kernel
theorem dL_law_624 : decode cL_law 624 = .ok (.ireturn, 1) := by decide +kernel
theorem dL_law_625 : decode cL_law 625 = .ok (.iinc 3 4, 3) := by decide +kernel
theorem dL_law_628 : decode cL_law 628 = .ok (.goto (-610), 3) := by decide +kernel
theorem dL_law_631 : decode cL_law 631 = .ok (.iconst 1, 1) := by decide +kernel
theorem dL_law_632 : decode cL_law 632 = .ok (.ireturn, 1) := by decide +kernel
end
section
/-! The frame of ours: pure stores, runs 'fw_R' of a method to its end, contracts 'fw_K', a row an instruction (fr_). -/
abbrev fw_M : Type := MethodName × ByteArray × Nat × Option FieldType
abbrev fw_E : Type := (Nat × List Value) ⊕ (Nat × ((Nat → Int) ⊕ (Nat → Int)))
abbrev fw_S : Type := Nat × (Nat → fw_E)
abbrev fw_G : Type := va_G × (Nat → Nat) × ClassId × ClassId
def iI (z : Int) : Int32 := Int32.ofInt z
def lI (z : Int) : Int64 := Int64.ofInt z
def fw_v (ad : Nat → Nat) : Value → Value
  | .ref k => .ref (ad k)
  | v => v
def fw_e (ad : Nat → Nat) (cI cJ : ClassId) : fw_E → va_E
  | .inl o => .inr (o.1, o.2.map (fw_v ad))
  | .inr (n, .inl f) => .inl (cI, n, .inl (fun j => iI (f j)))
  | .inr (n, .inr f) => .inl (cJ, n, .inr (.inl (fun j => lI (f j))))
def fw_ad (g : fw_G) : Nat → Nat := g.2.1
def fw_cI (g : fw_G) : ClassId := g.2.2.1
def fw_cJ (g : fw_G) : ClassId := g.2.2.2
def fw_w (g : fw_G) (w : fw_S) : va_W := (List.range w.1).map (fun k => (fw_ad g k, fw_e (fw_ad g) (fw_cI g) (fw_cJ g) (w.2 k)))
def fw_A (g : fw_G) (N sz : Nat) : Nat → Prop := fun q => (∃ k, k < N ∧ q = fw_ad g k) ∨ sz ≤ q
def fw_ok (g : fw_G) (N : Nat) : Prop := ∀ i j, i < N → j < N → fw_ad g i = fw_ad g j → i = j
def fw_H (g : fw_G) (w : fw_S) (H : Heap) : Prop := va_P g.1 vwCl (fw_w g w) H
abbrev fw_ty (g : fw_G) : List (ClassId × FieldType) := [(fw_cI g, .int), (fw_cJ g, .long)]
def fw_up (w : fw_S) (k : Nat) (e : fw_E) : fw_S := (w.1, fun j => if j = k then e else w.2 j)
/-- the cell k of the store -/
def fw_g (w : fw_S) (k : Nat) (e : fw_E) : Prop := k < w.1 ∧ w.2 k = e
theorem fw_up1 (w : fw_S) (k : Nat) (e : fw_E) : (fw_up w k e).1 = w.1 := rfl
theorem fw_up_self (w : fw_S) (k : Nat) (e : fw_E) : (fw_up w k e).2 k = e := by simp [fw_up]
theorem fw_up_ne (w : fw_S) {k j : Nat} (e : fw_E) (h : j ≠ k) : (fw_up w k e).2 j = w.2 j := by simp [fw_up, h]
theorem fw_g.up {w : fw_S} {k : Nat} {e0 : fw_E} (h : fw_g w k e0) (e : fw_E) : fw_g (fw_up w k e) k e := ⟨h.1, fw_up_self w k e⟩
theorem fw_g.ne {w : fw_S} {k j : Nat} {e0 : fw_E} (h : fw_g w j e0) (e : fw_E) (hj : j ≠ k) : fw_g (fw_up w k e) j e0 := ⟨h.1, (fw_up_ne w e hj).trans h.2⟩
theorem fw_g.inj {w : fw_S} {k : Nat} {e e' : fw_E} (h : fw_g w k e) (h' : fw_g w k e') : e = e' := h.2.symm.trans h'.2
theorem fw_g.oa {w : fw_S} {k j : Nat} {e : Nat × List Value} {e' : Nat × ((Nat → Int) ⊕ (Nat → Int))} (h : fw_g w k (.inl e)) (h' : fw_g w j (.inr e')) : k ≠ j := by
  intro q; subst q; have := h.inj h'; cases this
theorem fw_up_up (w : fw_S) (k : Nat) (e e' : fw_E) : fw_up (fw_up w k e) k e' = fw_up w k e' := by
  refine Prod.ext rfl ?_
  funext j; by_cases h : j = k <;> simp [fw_up, h]
theorem fw_up_id {w : fw_S} {k : Nat} {e : fw_E} (h : fw_g w k e) : fw_up w k e = w := by
  refine Prod.ext rfl ?_
  funext j; by_cases hj : j = k
  · subst hj; simp [fw_up, h.2]
  · simp [fw_up, hj]
theorem fw_up_swap (w : fw_S) {k j : Nat} (e e' : fw_E) (h : k ≠ j) : fw_up (fw_up w k e) j e' = fw_up (fw_up w j e') k e := by
  refine Prod.ext rfl ?_
  funext i
  by_cases h1 : i = k
  · subst h1
    simp [fw_up, h]
  · by_cases h2 : i = j
    · subst h2; simp [fw_up, h1]
    · simp [fw_up, h1, h2]
theorem fw_w_get {g : fw_G} {w : fw_S} {k : Nat} {e : fw_E} (h : fw_g w k e) : (fw_w g w)[k]? = some (fw_ad g k, fw_e (fw_ad g) (fw_cI g) (fw_cJ g) e) := by
  simp [fw_w, h.1, h.2]
theorem fw_w_set {g : fw_G} {w : fw_S} {k : Nat} {e : fw_E} (hk : k < w.1) : (fw_w g w).set k (fw_ad g k, fw_e (fw_ad g) (fw_cI g) (fw_cJ g) e) = fw_w g (fw_up w k e) := by
  apply List.ext_getElem?
  intro i
  by_cases hi : i = k
  · subst hi
    rw [fw_w_get (w := fw_up w i e) (e := e) ⟨hk, fw_up_self w i e⟩, List.getElem?_set_self]
    simp [fw_w, hk]
  · rw [List.getElem?_set_ne (Ne.symm hi)]
    by_cases hl : i < w.1
    · rw [fw_w_get (w := w) ⟨hl, rfl⟩, fw_w_get (w := fw_up w k e) ⟨hl, fw_up_ne _ _ hi⟩]
    · simp [fw_w, hl, fw_up1]
theorem fw_D {g : fw_G} {w : fw_S} {sz : Nat} (h : fw_ok g w.1) : va_D (fw_A g w.1 sz) (fw_w g w) := by
  refine ⟨fun i j p q hi hj hpq => ?_, fun k q hk => ?_⟩
  · have hi' : i < w.1 := by
      have := (List.getElem?_eq_some_iff.mp hi).1
      simpa [fw_w] using this
    have hj' : j < w.1 := by
      have := (List.getElem?_eq_some_iff.mp hj).1
      simpa [fw_w] using this
    rw [fw_w_get ⟨hi', rfl⟩] at hi
    rw [fw_w_get ⟨hj', rfl⟩] at hj
    cases hi; cases hj
    exact h i j hi' hj' hpq
  · have hk' : k < w.1 := by
      have := (List.getElem?_eq_some_iff.mp hk).1
      simpa [fw_w] using this
    rw [fw_w_get ⟨hk', rfl⟩] at hk
    cases hk
    exact Or.inl ⟨k, hk', rfl⟩
/-- the locals, by their places -/
def fw_l (ad : Nat → Nat) (ls : Array Slot) (nL : Nat) (L : List (Option Value)) : Prop := ls.size = nL ∧ lv_wf ls ∧ ∀ (i : Nat) (v : Value), L[i]? = some (some v) → ls[i]? = some (.val (fw_v ad v))
def fw_ll (ad : Nat → Nat) (L : List (Option Value)) : List (Nat × Value) := (List.range L.length).filterMap (fun i => match L[i]? with
  | some (some v) => some (i, fw_v ad v)
  | _ => none)
theorem fw_ll_mem {ad : Nat → Nat} {L : List (Option Value)} {q : Nat × Value} : q ∈ fw_ll ad L ↔ ∃ v, L[q.1]? = some (some v) ∧ q.2 = fw_v ad v := by
  unfold fw_ll
  rw [List.mem_filterMap]
  constructor
  · rintro ⟨i, hi, h⟩
    split at h
    next v hv => cases h; exact ⟨v, hv, rfl⟩
    next => cases h
  · rintro ⟨v, hv, h2⟩
    refine ⟨q.1, List.mem_range.mpr (List.getElem?_eq_some_iff.mp hv).1, ?_⟩
    rw [hv]
    simp only []
    rw [← h2]
theorem fw_l_has {ad : Nat → Nat} {ls : Array Slot} {nL : Nat} {L : List (Option Value)} (h : fw_l ad ls nL L) : lv_has ls nL (fw_ll ad L) := by
  refine ⟨h.1, h.2.1, fun q hq => ?_⟩
  obtain ⟨v, hv, h2⟩ := fw_ll_mem.mp hq
  rw [h.2.2 _ v hv, h2]
/-- no long ends just ahead of the place -/
def fw_nl (L : List (Option Value)) : Nat → Bool
  | 0 => true
  | i + 1 => match L[i]? with
    | some (some (.long _)) => false
    | some (some (.double _)) => false
    | _ => true
theorem fw_v_cat (ad : Nat → Nat) (v : Value) : (fw_v ad v).category = v.category := by cases v <;> rfl
theorem fw_l_set1 {ad : Nat → Nat} {ls' : Array Slot} {nL i : Nat} {L : List (Option Value)} {v : Value} (hn : fw_nl L i = true) (h : lv_has ls' nL ((i, fw_v ad v) :: (fw_ll ad L).filter (fun q => !(q.1 == i) && !(q.1 + 1 == i && q.2.category == 2)))) : fw_l ad ls' nL (L.set i (some v)) := by
  refine ⟨h.1, h.2.1, fun j x hx => ?_⟩
  by_cases hj : j = i
  · subst hj
    have hlt := (List.getElem?_eq_some_iff.mp hx).1
    rw [List.getElem?_set_self (by simpa using hlt)] at hx
    cases hx
    exact h.2.2 (j, fw_v ad v) List.mem_cons_self
  · rw [List.getElem?_set_ne (Ne.symm hj)] at hx
    refine h.2.2 (j, fw_v ad x) (List.mem_cons_of_mem _ (List.mem_filter.mpr ⟨fw_ll_mem.mpr ⟨x, hx, rfl⟩, ?_⟩))
    simp only [Bool.and_eq_true, Bool.not_eq_true', beq_eq_false_iff_ne, ne_eq]
    refine ⟨hj, ?_⟩
    rw [Bool.and_eq_false_iff]
    by_cases h1 : j + 1 = i
    · right
      subst h1
      rw [fw_v_cat]
      simp only [fw_nl, hx] at hn
      cases x <;> first | rfl | cases hn
    · left; simpa using h1
theorem fw_l_set2 {ad : Nat → Nat} {ls' : Array Slot} {nL i : Nat} {L : List (Option Value)} {v : Value} (hn : fw_nl L i = true) (h : lv_has ls' nL ((i, fw_v ad v) :: (fw_ll ad L).filter (fun q => !(q.1 == i) && (!(q.1 == i + 1) && !(q.1 + 1 == i && q.2.category == 2))))) : fw_l ad ls' nL ((L.set i (some v)).set (i + 1) none) := by
  refine ⟨h.1, h.2.1, fun j x hx => ?_⟩
  by_cases hj1 : j = i + 1
  · subst hj1
    have hlt := (List.getElem?_eq_some_iff.mp hx).1
    rw [List.getElem?_set_self (by simpa using hlt)] at hx
    cases hx
  rw [List.getElem?_set_ne (Ne.symm hj1)] at hx
  by_cases hj : j = i
  · subst hj
    have hlt := (List.getElem?_eq_some_iff.mp hx).1
    rw [List.getElem?_set_self (by simpa using hlt)] at hx
    cases hx
    exact h.2.2 (j, fw_v ad v) List.mem_cons_self
  · rw [List.getElem?_set_ne (Ne.symm hj)] at hx
    refine h.2.2 (j, fw_v ad x) (List.mem_cons_of_mem _ (List.mem_filter.mpr ⟨fw_ll_mem.mpr ⟨x, hx, rfl⟩, ?_⟩))
    simp only [Bool.and_eq_true, Bool.not_eq_true', beq_eq_false_iff_ne, ne_eq]
    refine ⟨hj, hj1, ?_⟩
    rw [Bool.and_eq_false_iff]
    by_cases h1 : j + 1 = i
    · right
      subst h1
      rw [fw_v_cat]
      simp only [fw_nl, hx] at hn
      cases x <;> first | rfl | cases hn
    · left; simpa using h1
theorem fw_args_get : ∀ (vs : List Value) (k : Nat), (∀ v ∈ vs, v.category = 1) → ∀ (i : Nat) (v : Value), vs[i]? = some v → (k + i, v) ∈ lv_args k vs
  | [], k, _, i, v, h => by simp at h
  | x :: vs, k, hc, i, v, h => by
    have hx : ¬ x.category = 2 := by rw [hc x List.mem_cons_self]; decide
    cases i with
    | zero =>
      rw [List.getElem?_cons_zero] at h
      cases h
      exact List.mem_cons_self
    | succ i =>
      rw [List.getElem?_cons_succ] at h
      have h1 := fw_args_get vs (k + 1) (fun y hy => hc y (List.mem_cons_of_mem _ hy)) i v h
      show _ ∈ (k, x) :: lv_args (if x.category = 2 then k + 2 else k + 1) vs
      rw [if_neg hx]
      refine List.mem_cons_of_mem _ ?_
      rw [show k + (i + 1) = k + 1 + i by omega]
      exact h1
/-- the words of the nest mates, which no list of good words holds -/
def fw_isN : Cond → Bool
  | .fieldLinkNest .. => true
  | .methodLinkNest .. => true
  | _ => false
def fw_nest : List Cond := lw_tbl.filter fw_isN
def fw_rm (d : Nat) : Room := { frames := d, cells := 0, slots := 0, locals := 64 * d }
def fw_ws (M : fw_M) : List Cond := Cond.code M.1 M.2.1 M.2.2.1 M.2.2.2 :: okW
def fw_Q (g : fw_G) (r : Option Value) (w' : fw_S) (sz : Nat) : Array Value → State → Outcome → State → Prop := fun _ st oc t => oc = .returned (r.map (fw_v (fw_ad g))) ∧ fw_H g w' t.heap ∧ va_F (fw_A g w'.1 sz) st t
/-- what holds all through a run of the method M, with room for d calls one in another -/
def fw_C (M : fw_M) (d : Nat) (p : Program) (l : Launch) (R : Room) (s : State) (m : MethodId) (args : Array Value) (meth : Method) (c : Code) (g : fw_G) (N : Nat) : Prop :=
  p.tables.exec = Jvm.exec ∧ c.code = M.2.1 ∧ meth.sig.returnType = M.2.2.2 ∧ c.maxLocals = M.2.2.1 ∧ s.vm.findClass M.1.cls = some m.cls ∧ (∀ w ∈ okW, w.before args s = true) ∧ (∀ w ∈ fw_nest, va_Nw w s) ∧ meth.locks = false ∧ va_K g.1 vwCl (fw_ty g) s ∧ fw_ok g N ∧ d ≤ R.frames ∧ 64 * d ≤ R.locals
/-- from here, the method M ends with the answer r and the store w' -/
def fw_R (M : fw_M) (d pc : Nat) (L : List (Option Value)) (S : List Value) (w : fw_S) (r : Option Value) (w' : fw_S) : Prop :=
  w'.1 = w.1 → ∀ (p : Program) (l : Launch) (e : Env) (R : Room) (s : State) (m : MethodId) (args : Array Value) (below : List Frame) (meth : Method) (c : Code) (g : fw_G), fw_C M d p l R s m args meth c g w.1 →
  ∀ (H : Heap) (locs : List Loc) (ls : Array Slot), fw_H g w H → va_S (fw_A g w.1 s.heap.size) s.heap H locs → fw_l (fw_ad g) ls M.2.2.1 L →
  W p l e R s m args below meth c H locs 0 0 (MQ below (fw_Q g r w' s.heap.size) args s 0 0 (fw_A g w.1 s.heap.size)) (F0 m pc ls (S.map (fw_v (fw_ad g))))
/-- the contract: in the store w, with these arguments, M answers r and leaves w' -/
def fw_K (d : Nat) (M : fw_M) (a : List Value) (w : fw_S) (r : Option Value) (w' : fw_S) : Prop :=
  w'.1 = w.1 ∧ ∀ (l : Launch) (g : fw_G) (sz : Nat), fw_ok g w.1 → Met l M.1 (fw_ws M) (fw_rm d) (va_Pc (a.map (fw_v (fw_ad g))) (fun U => U.heap.size = sz ∧ fw_H g w U.heap ∧ va_K g.1 vwCl (fw_ty g) U ∧ ∀ x ∈ fw_nest, va_Nw x U)) (fw_Q g r w' sz) 0 0 (fw_A g w.1 sz)
def fw_L0 (M : fw_M) (a : List Value) : List (Option Value) := a.map some ++ List.replicate (M.2.2.1 - a.length) none
theorem lg_sl_cat1 (vs : List Value) (h : ∀ v ∈ vs, v.category = 1) : (lg_sl vs).length = vs.length := by
  induction vs with
  | nil => rfl
  | cons v vs ih =>
    have h1 : ¬ v.category = 2 := by rw [h v List.mem_cons_self]; decide
    have h2 := ih (fun x hx => h x (List.mem_cons_of_mem _ hx))
    simp only [lg_sl, List.flatMap_cons, if_neg h1] at h2 ⊢
    simp [h2]
theorem fw_K.of {d : Nat} {M : fw_M} {a : List Value} {w : fw_S} {r : Option Value} {w' : fw_S} (hp : plainName M.1.cls = true) (hl : a.length ≤ M.2.2.1) (ha : ∀ v ∈ a, v.category = 1)
    (hN' : w'.1 = w.1) (h : fw_R M d 0 (fw_L0 M a) [] w r w') : fw_K d M a w r w' := by
  refine ⟨hN', ?_⟩
  intro l g sz hg
  refine Met.ofW (cc := M.2.1) (maxL := M.2.2.1) (ret := M.2.2.2) hp rfl ?_
  intro p e s m args below meth c s₁ B hml hv
  obtain ⟨rfl, hsz, hP, hK, hN⟩ := hv
  subst hsz
  have hts := atoms_spec (ws := fw_ws M) B.pre
  have hown : s.vm.findClass M.1.cls = some m.cls := findClass_of_methodNamed B.named
  have hc1 : ∀ v ∈ a.map (fw_v (fw_ad g)), v.category = 1 := by
    intro v hv
    obtain ⟨x, hx, rfl⟩ := List.mem_map.mp hv
    rw [fw_v_cat]; exact ha x hx
  have hlen : (lg_sl (a.map (fw_v (fw_ad g)))).length ≤ M.2.2.1 := by rw [lg_sl_cat1 _ hc1]; simpa using hl
  have hlv := lv_entry (a.map (fw_v (fw_ad g))) (n := M.2.2.1) hlen
  rw [lg_entry_eq]
  refine h hN' p l e _ s m _ below meth c g ⟨B.exec, B.bytes, B.returns, hml, hown, fun x hx => hts x (List.mem_cons_of_mem _ hx), hN, B.notSynchronized, hK, hg, Nat.le_refl _, Nat.le_refl _⟩ s.heap [] _ hP va_S.rf ⟨hlv.1, hlv.2.1, fun i v hv => ?_⟩
  have hi : i < a.length := by
    rcases Nat.lt_or_ge i a.length with h1 | h1
    · exact h1
    · exfalso
      rw [fw_L0, List.getElem?_append_right (by simpa using h1)] at hv
      have := List.mem_of_getElem? hv
      rw [List.mem_replicate] at this
      exact absurd this.2 (by simp)
  rw [fw_L0, List.getElem?_append_left (by simpa using hi), List.getElem?_map] at hv
  have hv2 : a[i]? = some v := by
    cases hq : a[i]? with
    | none => rw [hq] at hv; cases hv
    | some y => rw [hq] at hv; simpa using hv
  have hm := fw_args_get (a.map (fw_v (fw_ad g))) 0 hc1 i (fw_v (fw_ad g) v) (by rw [List.getElem?_map, hv2]; rfl)
  have := hlv.2.2 _ hm
  simpa using this
theorem fw_R.weak {M : fw_M} {d pc : Nat} {L1 L2 : List (Option Value)} {S : List Value} {w : fw_S} {r : Option Value} {w' : fw_S} (h : fw_R M d pc L1 S w r w') (hL : ∀ (i : Nat) (v : Value), L1[i]? = some (some v) → L2[i]? = some (some v)) : fw_R M d pc L2 S w r w' := by
  intro hN p l e R s m args below meth c g C H locs ls hH hS hl
  exact h hN p l e R s m args below meth c g C H locs ls hH hS ⟨hl.1, hl.2.1, fun i v hv => hl.2.2 i v (hL i v hv)⟩
def fw_le : List (Option Value) → List (Option Value) → Prop
  | [], _ => True
  | none :: a, [] => fw_le a []
  | some _ :: _, [] => False
  | none :: a, _ :: b => fw_le a b
  | some x :: a, y :: b => y = some x ∧ fw_le a b
theorem fw_le.get : ∀ (a b : List (Option Value)), fw_le a b → ∀ (i : Nat) (v : Value), a[i]? = some (some v) → b[i]? = some (some v)
  | [], _, _, i, v, h => by simp at h
  | none :: a, [], h, i, v, hi => by
    cases i with
    | zero => simp at hi
    | succ i => have := fw_le.get a [] h i v (by simpa using hi); simp at this
  | some _ :: _, [], h, _, _, _ => h.elim
  | none :: a, _ :: b, h, i, v, hi => by
    cases i with
    | zero => simp at hi
    | succ i => exact fw_le.get a b h i v (by simpa using hi)
  | some x :: a, y :: b, h, i, v, hi => by
    cases i with
    | zero => rw [List.getElem?_cons_zero] at hi ⊢; rw [h.1]; exact hi
    | succ i => exact fw_le.get a b h.2 i v (by simpa using hi)
theorem fw_R.wk {M : fw_M} {d pc : Nat} {L1 L2 : List (Option Value)} {S : List Value} {w : fw_S} {r : Option Value} {w' : fw_S} (h : fw_R M d pc L1 S w r w') (hL : fw_le L1 L2) : fw_R M d pc L2 S w r w' := h.weak (fw_le.get _ _ hL)
end
section
/-! a row an instruction -/
section FR
variable {M : fw_M} {d pc : Nat} {L : List (Option Value)} {S : List Value} {w : fw_S} {r : Option Value} {w' : fw_S}
theorem fw_rng {z : Int} (h : -2147483648 ≤ z ∧ z ≤ 2147483647) : (iI z).toInt = z := by
  unfold iI
  rw [Int32.toInt_ofInt]
  rw [Int.bmod_def]
  have e : ((Int32.size : Nat) : Int) = 4294967296 := rfl
  rw [e]
  omega
theorem iI_eq {a b : Int} (ha : -2147483648 ≤ a ∧ a ≤ 2147483647) (hb : -2147483648 ≤ b ∧ b ≤ 2147483647) : iI a = iI b ↔ a = b := by
  constructor
  · intro h; have := congrArg Int32.toInt h; rwa [fw_rng ha, fw_rng hb] at this
  · intro h; rw [h]
theorem iI_lt {a b : Int} (ha : -2147483648 ≤ a ∧ a ≤ 2147483647) (hb : -2147483648 ≤ b ∧ b ≤ 2147483647) : iI a < iI b ↔ a < b := by
  rw [Int32.lt_iff_toInt_lt, fw_rng ha, fw_rng hb]
theorem iI_le {a b : Int} (ha : -2147483648 ≤ a ∧ a ≤ 2147483647) (hb : -2147483648 ≤ b ∧ b ≤ 2147483647) : iI a ≤ iI b ↔ a ≤ b := by
  rw [Int32.le_iff_toInt_le, fw_rng ha, fw_rng hb]
theorem iI_0 : iI 0 = 0 := rfl
theorem iI_add (a b : Int) : iI a + iI b = iI (a + b) := (Int32.ofInt_add a b).symm
theorem iI_sub (a b : Int) : iI a - iI b = iI (a - b) := (Int32.ofInt_sub a b).symm
theorem iI_mul (a b : Int) : iI a * iI b = iI (a * b) := (Int32.ofInt_mul a b).symm
theorem iI_neg (a : Int) : - iI a = iI (-a) := (Int32.ofInt_neg a).symm
theorem lI_add (a b : Int) : lI a + lI b = lI (a + b) := (Int64.ofInt_add a b).symm
theorem lI_sub (a b : Int) : lI a - lI b = lI (a - b) := (Int64.ofInt_sub a b).symm
theorem lI_mul (a b : Int) : lI a * lI b = lI (a * b) := (Int64.ofInt_mul a b).symm
theorem lI_neg (a : Int) : - lI a = lI (-a) := (Int64.ofInt_neg a).symm
theorem iI_toInt (x : Int32) : iI x.toInt = x := Int32.ofInt_toInt x
theorem lI_toInt (x : Int64) : lI x.toInt = x := Int64.ofInt_toInt x
theorem fr_iconst {n : Int} (hd : decode M.2.1 pc = .ok (.iconst n, 1)) (k : fw_R M d (pc + 1) L (.int (iI n) :: S) w r w') : fw_R M d pc L S w r w' := by
  intro hN p l e R s m args below meth c g C H locs ls hH hS hl
  exact lv_iconst C.1 C.2.1 hd rfl (k hN p l e R s m args below meth c g C H locs ls hH hS hl)
theorem fr_bipush {n : Int} (hd : decode M.2.1 pc = .ok (.bipush n, 2)) (hv : (Int8.ofInt n).toInt32 = iI n) (k : fw_R M d (pc + 2) L (.int (iI n) :: S) w r w') : fw_R M d pc L S w r w' := by
  intro hN p l e R s m args below meth c g C H locs ls hH hS hl
  exact lv_bipush C.1 C.2.1 hd hv (k hN p l e R s m args below meth c g C H locs ls hH hS hl)
theorem fr_sipush {n : Int} (hd : decode M.2.1 pc = .ok (.sipush n, 3)) (hv : (Int16.ofInt n).toInt32 = iI n) (k : fw_R M d (pc + 3) L (.int (iI n) :: S) w r w') : fw_R M d pc L S w r w' := by
  intro hN p l e R s m args below meth c g C H locs ls hH hS hl
  exact lv_sipush C.1 C.2.1 hd hv (k hN p l e R s m args below meth c g C H locs ls hH hS hl)
theorem fr_lconst {n : Fin 2} {z : Int} (hd : decode M.2.1 pc = .ok (.lconst n, 1)) (hv : Int64.ofNat (n : Nat) = lI z) (k : fw_R M d (pc + 1) L (.long (lI z) :: S) w r w') : fw_R M d pc L S w r w' := by
  intro hN p l e R s m args below meth c g C H locs ls hH hS hl
  exact lv_lconst C.1 C.2.1 hd hv (k hN p l e R s m args below meth c g C H locs ls hH hS hl)
theorem fr_iload_n {n : Fin 4} {x : Int32} (hd : decode M.2.1 pc = .ok (.iload_n n, 1)) (hL : L[(n : Nat)]? = some (some (.int x))) (k : fw_R M d (pc + 1) L (.int x :: S) w r w') : fw_R M d pc L S w r w' := by
  intro hN p l e R s m args below meth c g C H locs ls hH hS hl
  exact lv_iload_n C.1 C.2.1 hd rfl (hl.2.2 _ _ hL) (k hN p l e R s m args below meth c g C H locs ls hH hS hl)
theorem fr_iload {n : Nat} {x : Int32} (hd : decode M.2.1 pc = .ok (.iload n, 2)) (hL : L[n]? = some (some (.int x))) (k : fw_R M d (pc + 2) L (.int x :: S) w r w') : fw_R M d pc L S w r w' := by
  intro hN p l e R s m args below meth c g C H locs ls hH hS hl
  exact lv_iload C.1 C.2.1 hd (hl.2.2 _ _ hL) (k hN p l e R s m args below meth c g C H locs ls hH hS hl)
theorem fr_lload_n {n : Fin 4} {x : Int64} (hd : decode M.2.1 pc = .ok (.lload_n n, 1)) (hL : L[(n : Nat)]? = some (some (.long x))) (k : fw_R M d (pc + 1) L (.long x :: S) w r w') : fw_R M d pc L S w r w' := by
  intro hN p l e R s m args below meth c g C H locs ls hH hS hl
  exact lv_lload_n C.1 C.2.1 hd rfl (hl.2.2 _ _ hL) (k hN p l e R s m args below meth c g C H locs ls hH hS hl)
theorem fr_lload {n : Nat} {x : Int64} (hd : decode M.2.1 pc = .ok (.lload n, 2)) (hL : L[n]? = some (some (.long x))) (k : fw_R M d (pc + 2) L (.long x :: S) w r w') : fw_R M d pc L S w r w' := by
  intro hN p l e R s m args below meth c g C H locs ls hH hS hl
  exact lv_lload C.1 C.2.1 hd (hl.2.2 _ _ hL) (k hN p l e R s m args below meth c g C H locs ls hH hS hl)
theorem fr_aload_n {n : Fin 4} {x : Nat} (hd : decode M.2.1 pc = .ok (.aload_n n, 1)) (hL : L[(n : Nat)]? = some (some (.ref x))) (k : fw_R M d (pc + 1) L (.ref x :: S) w r w') : fw_R M d pc L S w r w' := by
  intro hN p l e R s m args below meth c g C H locs ls hH hS hl
  exact lv_aload_n C.1 C.2.1 hd rfl (hl.2.2 _ _ hL) (k hN p l e R s m args below meth c g C H locs ls hH hS hl)
theorem fr_istore_n {n : Fin 4} {i : Nat} {x : Int32} {L' : List (Option Value)} (hd : decode M.2.1 pc = .ok (.istore_n n, 1)) (hi : (n : Nat) = i) (hn : i < M.2.2.1) (hk : fw_nl L i = true) (hL : L.set i (some (.int x)) = L') (k : fw_R M d (pc + 1) L' S w r w') : fw_R M d pc L (.int x :: S) w r w' := by
  intro hN p l e R s m args below meth c g C H locs ls hH hS hl
  subst hL
  exact lv_istore_n (lv := fw_ll (fw_ad g) L) C.1 C.2.1 hd hi (fw_l_has hl) hn rfl (fun ls' hl' => k hN p l e R s m args below meth c g C H locs ls' hH hS (fw_l_set1 (v := .int x) hk hl'))
theorem fr_istore {i : Nat} {x : Int32} {L' : List (Option Value)} (hd : decode M.2.1 pc = .ok (.istore i, 2)) (hn : i < M.2.2.1) (hk : fw_nl L i = true) (hL : L.set i (some (.int x)) = L') (k : fw_R M d (pc + 2) L' S w r w') : fw_R M d pc L (.int x :: S) w r w' := by
  intro hN p l e R s m args below meth c g C H locs ls hH hS hl
  subst hL
  exact lv_istore (lv := fw_ll (fw_ad g) L) C.1 C.2.1 hd (fw_l_has hl) hn rfl (fun ls' hl' => k hN p l e R s m args below meth c g C H locs ls' hH hS (fw_l_set1 (v := .int x) hk hl'))
theorem fr_lstore_n {n : Fin 4} {i : Nat} {x : Int64} {L' : List (Option Value)} (hd : decode M.2.1 pc = .ok (.lstore_n n, 1)) (hi : (n : Nat) = i) (hn : i + 1 < M.2.2.1) (hk : fw_nl L i = true) (hL : (L.set i (some (.long x))).set (i + 1) none = L') (k : fw_R M d (pc + 1) L' S w r w') : fw_R M d pc L (.long x :: S) w r w' := by
  intro hN p l e R s m args below meth c g C H locs ls hH hS hl
  subst hL
  exact lv_lstore_n (lv := fw_ll (fw_ad g) L) C.1 C.2.1 hd hi (fw_l_has hl) hn rfl (fun ls' hl' => k hN p l e R s m args below meth c g C H locs ls' hH hS (fw_l_set2 (v := .long x) hk hl'))
theorem fr_lstore {i : Nat} {x : Int64} {L' : List (Option Value)} (hd : decode M.2.1 pc = .ok (.lstore i, 2)) (hn : i + 1 < M.2.2.1) (hk : fw_nl L i = true) (hL : (L.set i (some (.long x))).set (i + 1) none = L') (k : fw_R M d (pc + 2) L' S w r w') : fw_R M d pc L (.long x :: S) w r w' := by
  intro hN p l e R s m args below meth c g C H locs ls hH hS hl
  subst hL
  exact lv_lstore (lv := fw_ll (fw_ad g) L) C.1 C.2.1 hd (fw_l_has hl) hn rfl (fun ls' hl' => k hN p l e R s m args below meth c g C H locs ls' hH hS (fw_l_set2 (v := .long x) hk hl'))
theorem fr_iinc {i : Nat} {n z : Int} {L' : List (Option Value)} (hd : decode M.2.1 pc = .ok (.iinc i n, 3)) (hv : L[i]? = some (some (.int (iI z)))) (hn : i < M.2.2.1) (hk : fw_nl L i = true) (hL : L.set i (some (.int (iI (z + n)))) = L') (k : fw_R M d (pc + 3) L' S w r w') : fw_R M d pc L S w r w' := by
  intro hN p l e R s m args below meth c g C H locs ls hH hS hl
  subst hL
  obtain ⟨kk, hkk⟩ := List.getElem?_of_mem (fw_ll_mem (ad := fw_ad g) (q := (i, .int (iI z))) |>.mpr ⟨_, hv, rfl⟩)
  exact lv_iinc (lv := fw_ll (fw_ad g) L) (v := iI (z + n)) C.1 C.2.1 hd (fw_l_has hl) hkk (by rw [show Int32.ofInt n = iI n from rfl, iI_add]) hn rfl (fun ls' hl' => k hN p l e R s m args below meth c g C H locs ls' hH hS (fw_l_set1 (v := .int (iI (z + n))) hk hl'))
theorem fr_iadd {a b : Int} (hd : decode M.2.1 pc = .ok (.iadd, 1)) (k : fw_R M d (pc + 1) L (.int (iI (a + b)) :: S) w r w') : fw_R M d pc L (.int (iI b) :: .int (iI a) :: S) w r w' := by
  intro hN p l e R s m args below meth c g C H locs ls hH hS hl
  exact lv_iadd C.1 C.2.1 hd (by rw [iI_add]; exact k hN p l e R s m args below meth c g C H locs ls hH hS hl)
theorem fr_isub {a b : Int} (hd : decode M.2.1 pc = .ok (.isub, 1)) (k : fw_R M d (pc + 1) L (.int (iI (a - b)) :: S) w r w') : fw_R M d pc L (.int (iI b) :: .int (iI a) :: S) w r w' := by
  intro hN p l e R s m args below meth c g C H locs ls hH hS hl
  exact lv_isub C.1 C.2.1 hd (by rw [iI_sub]; exact k hN p l e R s m args below meth c g C H locs ls hH hS hl)
theorem fr_imul {a b : Int} (hd : decode M.2.1 pc = .ok (.imul, 1)) (k : fw_R M d (pc + 1) L (.int (iI (a * b)) :: S) w r w') : fw_R M d pc L (.int (iI b) :: .int (iI a) :: S) w r w' := by
  intro hN p l e R s m args below meth c g C H locs ls hH hS hl
  exact lv_imul C.1 C.2.1 hd (by rw [iI_mul]; exact k hN p l e R s m args below meth c g C H locs ls hH hS hl)
theorem fr_ineg {a : Int} (hd : decode M.2.1 pc = .ok (.ineg, 1)) (k : fw_R M d (pc + 1) L (.int (iI (-a)) :: S) w r w') : fw_R M d pc L (.int (iI a) :: S) w r w' := by
  intro hN p l e R s m args below meth c g C H locs ls hH hS hl
  exact lv_ineg C.1 C.2.1 hd (by rw [iI_neg]; exact k hN p l e R s m args below meth c g C H locs ls hH hS hl)
/-- any answer that is said -/
theorem fr_iand {x y : Int32} (z : Int) (hd : decode M.2.1 pc = .ok (.iand, 1)) (hz : x &&& y = iI z) (k : fw_R M d (pc + 1) L (.int (iI z) :: S) w r w') : fw_R M d pc L (.int y :: .int x :: S) w r w' := by
  intro hN p l e R s m args below meth c g C H locs ls hH hS hl
  exact lv_iand C.1 C.2.1 hd (by rw [hz]; exact k hN p l e R s m args below meth c g C H locs ls hH hS hl)
theorem fr_ior {x y : Int32} (z : Int) (hd : decode M.2.1 pc = .ok (.ior, 1)) (hz : x ||| y = iI z) (k : fw_R M d (pc + 1) L (.int (iI z) :: S) w r w') : fw_R M d pc L (.int y :: .int x :: S) w r w' := by
  intro hN p l e R s m args below meth c g C H locs ls hH hS hl
  exact lv_ior C.1 C.2.1 hd (by rw [hz]; exact k hN p l e R s m args below meth c g C H locs ls hH hS hl)
theorem fr_ixor {x y : Int32} (z : Int) (hd : decode M.2.1 pc = .ok (.ixor, 1)) (hz : x ^^^ y = iI z) (k : fw_R M d (pc + 1) L (.int (iI z) :: S) w r w') : fw_R M d pc L (.int y :: .int x :: S) w r w' := by
  intro hN p l e R s m args below meth c g C H locs ls hH hS hl
  exact lv_ixor C.1 C.2.1 hd (by rw [hz]; exact k hN p l e R s m args below meth c g C H locs ls hH hS hl)
theorem fr_ishl {x y : Int32} (z : Int) (hd : decode M.2.1 pc = .ok (.ishl, 1)) (hz : x <<< (y &&& 31) = iI z) (k : fw_R M d (pc + 1) L (.int (iI z) :: S) w r w') : fw_R M d pc L (.int y :: .int x :: S) w r w' := by
  intro hN p l e R s m args below meth c g C H locs ls hH hS hl
  exact lv_ishl C.1 C.2.1 hd (by rw [hz]; exact k hN p l e R s m args below meth c g C H locs ls hH hS hl)
theorem fr_ishr {x y : Int32} (z : Int) (hd : decode M.2.1 pc = .ok (.ishr, 1)) (hz : x >>> (y &&& 31) = iI z) (k : fw_R M d (pc + 1) L (.int (iI z) :: S) w r w') : fw_R M d pc L (.int y :: .int x :: S) w r w' := by
  intro hN p l e R s m args below meth c g C H locs ls hH hS hl
  exact lv_ishr C.1 C.2.1 hd (by rw [hz]; exact k hN p l e R s m args below meth c g C H locs ls hH hS hl)
theorem fr_iushr {x y v : Int32} (hd : decode M.2.1 pc = .ok (.iushr, 1)) (hz : (x.toUInt32 >>> (y.toUInt32 &&& Int32.toUInt32 31)).toInt32 = v) (k : fw_R M d (pc + 1) L (.int v :: S) w r w') : fw_R M d pc L (.int y :: .int x :: S) w r w' := by
  intro hN p l e R s m args below meth c g C H locs ls hH hS hl
  exact lv_iushr C.1 C.2.1 hd hz (k hN p l e R s m args below meth c g C H locs ls hH hS hl)
theorem iI_div {a b : Int} (ha : -2147483648 < a ∧ a ≤ 2147483647) (hb : -2147483648 ≤ b ∧ b ≤ 2147483647) (h0 : b ≠ 0) : iI a / iI b = iI (a.tdiv b) := by
  rw [← Int32.toInt_inj]
  have h1 : (a.tdiv b).natAbs ≤ a.natAbs := by rw [Int.natAbs_tdiv]; exact Nat.div_le_self _ _
  rw [Int32.toInt_div, fw_rng ⟨by omega, ha.2⟩, fw_rng hb, fw_rng ⟨by omega, by omega⟩]
  rw [Int.bmod_def]
  omega
theorem fr_idiv {a b : Int} (hd : decode M.2.1 pc = .ok (.idiv, 1)) (ha : -2147483648 < a ∧ a ≤ 2147483647) (hb : -2147483648 ≤ b ∧ b ≤ 2147483647) (h0 : b ≠ 0) (k : fw_R M d (pc + 1) L (.int (iI (a.tdiv b)) :: S) w r w') : fw_R M d pc L (.int (iI b) :: .int (iI a) :: S) w r w' := by
  intro hN p l e R s m args below meth c g C H locs ls hH hS hl
  exact lv_idiv C.1 C.2.1 hd (fun h => h0 ((iI_eq hb (by decide)).mp h)) (by rw [iI_div ha hb h0]; exact k hN p l e R s m args below meth c g C H locs ls hH hS hl)
theorem fr_irem {a b : Int} (hd : decode M.2.1 pc = .ok (.irem, 1)) (ha : -2147483648 < a ∧ a ≤ 2147483647) (hb : -2147483648 ≤ b ∧ b ≤ 2147483647) (h0 : b ≠ 0) (k : fw_R M d (pc + 1) L (.int (iI (a.tmod b)) :: S) w r w') : fw_R M d pc L (.int (iI b) :: .int (iI a) :: S) w r w' := by
  intro hN p l e R s m args below meth c g C H locs ls hH hS hl
  refine lv_irem C.1 C.2.1 hd (fun h => h0 ((iI_eq hb (by decide)).mp h)) ?_
  rw [iI_div ha hb h0, iI_mul, iI_sub]
  rw [show a - a.tdiv b * b = a.tmod b by have := Int.tmod_def a b; rw [this, Int.mul_comm]]
  exact k hN p l e R s m args below meth c g C H locs ls hH hS hl
theorem fr_ladd {a b : Int} (hd : decode M.2.1 pc = .ok (.ladd, 1)) (k : fw_R M d (pc + 1) L (.long (lI (a + b)) :: S) w r w') : fw_R M d pc L (.long (lI b) :: .long (lI a) :: S) w r w' := by
  intro hN p l e R s m args below meth c g C H locs ls hH hS hl
  exact lv_ladd C.1 C.2.1 hd (by rw [lI_add]; exact k hN p l e R s m args below meth c g C H locs ls hH hS hl)
theorem fr_lsub {a b : Int} (hd : decode M.2.1 pc = .ok (.lsub, 1)) (k : fw_R M d (pc + 1) L (.long (lI (a - b)) :: S) w r w') : fw_R M d pc L (.long (lI b) :: .long (lI a) :: S) w r w' := by
  intro hN p l e R s m args below meth c g C H locs ls hH hS hl
  exact lv_lsub C.1 C.2.1 hd (by rw [lI_sub]; exact k hN p l e R s m args below meth c g C H locs ls hH hS hl)
theorem fr_lmul {a b : Int} (hd : decode M.2.1 pc = .ok (.lmul, 1)) (k : fw_R M d (pc + 1) L (.long (lI (a * b)) :: S) w r w') : fw_R M d pc L (.long (lI b) :: .long (lI a) :: S) w r w' := by
  intro hN p l e R s m args below meth c g C H locs ls hH hS hl
  exact lv_lmul C.1 C.2.1 hd (by rw [lI_mul]; exact k hN p l e R s m args below meth c g C H locs ls hH hS hl)
theorem fr_lneg {a : Int} (hd : decode M.2.1 pc = .ok (.lneg, 1)) (k : fw_R M d (pc + 1) L (.long (lI (-a)) :: S) w r w') : fw_R M d pc L (.long (lI a) :: S) w r w' := by
  intro hN p l e R s m args below meth c g C H locs ls hH hS hl
  exact lv_lneg C.1 C.2.1 hd (by rw [lI_neg]; exact k hN p l e R s m args below meth c g C H locs ls hH hS hl)
theorem fr_i2l {a : Int} (hd : decode M.2.1 pc = .ok (.i2l, 1)) (ha : -2147483648 ≤ a ∧ a ≤ 2147483647) (k : fw_R M d (pc + 1) L (.long (lI a) :: S) w r w') : fw_R M d pc L (.int (iI a) :: S) w r w' := by
  intro hN p l e R s m args below meth c g C H locs ls hH hS hl
  refine lv_i2l (v := lI a) C.1 C.2.1 hd ?_ (k hN p l e R s m args below meth c g C H locs ls hH hS hl)
  rw [← Int64.toInt_inj, Int32.toInt_toInt64, fw_rng ha]
  unfold lI
  rw [Int64.toInt_ofInt, Int.bmod_def]
  have e : ((Int64.size : Nat) : Int) = 18446744073709551616 := rfl
  rw [e]
  omega
theorem fr_lcmp {x y : Int64} (hd : decode M.2.1 pc = .ok (.lcmp, 1)) (k : fw_R M d (pc + 1) L (.int (lg_cmp x y) :: S) w r w') : fw_R M d pc L (.long y :: .long x :: S) w r w' := by
  intro hN p l e R s m args below meth c g C H locs ls hH hS hl
  exact W.lcmp C.1 C.2.1 hd (k hN p l e R s m args below meth c g C H locs ls hH hS hl)
theorem fr_dup {v : Value} (hd : decode M.2.1 pc = .ok (.dup, 1)) (hv : v.category = 1) (k : fw_R M d (pc + 1) L (v :: v :: S) w r w') : fw_R M d pc L (v :: S) w r w' := by
  intro hN p l e R s m args below meth c g C H locs ls hH hS hl
  exact lv_dup C.1 C.2.1 hd (by rw [fw_v_cat]; exact hv) (k hN p l e R s m args below meth c g C H locs ls hH hS hl)
theorem fr_dup2 {v u : Value} (hd : decode M.2.1 pc = .ok (.dup2, 1)) (hv : v.category = 1) (hu : u.category = 1) (k : fw_R M d (pc + 1) L (v :: u :: v :: u :: S) w r w') : fw_R M d pc L (v :: u :: S) w r w' := by
  intro hN p l e R s m args below meth c g C H locs ls hH hS hl
  exact lv_dup2_11 C.1 C.2.1 hd (by rw [fw_v_cat]; exact hv) (by rw [fw_v_cat]; exact hu) (k hN p l e R s m args below meth c g C H locs ls hH hS hl)
theorem fr_goto {off : Int} {tgt : Nat} (hd : decode M.2.1 pc = .ok (.goto off, 3)) (ht : (pc : Int) + off = (tgt : Int)) (k : fw_R M d tgt L S w r w') : fw_R M d pc L S w r w' := by
  intro hN p l e R s m args below meth c g C H locs ls hH hS hl
  exact lv_goto C.1 C.2.1 hd ht (k hN p l e R s m args below meth c g C H locs ls hH hS hl)
theorem fr_if_eq {a : Int} {off : Int} {tgt : Nat} (hd : decode M.2.1 pc = .ok (.ifCond .eq off, 3)) (ht : (pc : Int) + off = (tgt : Int)) (ha : -2147483648 ≤ a ∧ a ≤ 2147483647) (kt : a = 0 → fw_R M d tgt L S w r w') (kf : a ≠ 0 → fw_R M d (pc + 3) L S w r w') : fw_R M d pc L (.int (iI a) :: S) w r w' := by
  intro hN p l e R s m args below meth c g C H locs ls hH hS hl
  exact lv_if_eq C.1 C.2.1 hd ht (fun h => kt ((iI_eq ha (by decide)).mp h) hN p l e R s m args below meth c g C H locs ls hH hS hl) (fun h => kf (fun q => h (by rw [q]; rfl)) hN p l e R s m args below meth c g C H locs ls hH hS hl)
theorem fr_if_ne {a : Int} {off : Int} {tgt : Nat} (hd : decode M.2.1 pc = .ok (.ifCond .ne off, 3)) (ht : (pc : Int) + off = (tgt : Int)) (ha : -2147483648 ≤ a ∧ a ≤ 2147483647) (kt : a ≠ 0 → fw_R M d tgt L S w r w') (kf : a = 0 → fw_R M d (pc + 3) L S w r w') : fw_R M d pc L (.int (iI a) :: S) w r w' := by
  intro hN p l e R s m args below meth c g C H locs ls hH hS hl
  refine lv_if_ne C.1 C.2.1 hd ht (fun h => kt (fun q => h (by rw [q]; rfl)) hN p l e R s m args below meth c g C H locs ls hH hS hl) (fun h => kf ?_ hN p l e R s m args below meth c g C H locs ls hH hS hl)
  exact (iI_eq ha (by decide)).mp h
theorem fr_if_lt {a : Int} {off : Int} {tgt : Nat} (hd : decode M.2.1 pc = .ok (.ifCond .lt off, 3)) (ht : (pc : Int) + off = (tgt : Int)) (ha : -2147483648 ≤ a ∧ a ≤ 2147483647) (kt : a < 0 → fw_R M d tgt L S w r w') (kf : 0 ≤ a → fw_R M d (pc + 3) L S w r w') : fw_R M d pc L (.int (iI a) :: S) w r w' := by
  intro hN p l e R s m args below meth c g C H locs ls hH hS hl
  exact lv_if_lt C.1 C.2.1 hd ht (fun h => kt ((iI_lt ha (by decide)).mp h) hN p l e R s m args below meth c g C H locs ls hH hS hl) (fun h => kf (Int.not_lt.mp (fun q => h ((iI_lt ha (by decide)).mpr q))) hN p l e R s m args below meth c g C H locs ls hH hS hl)
theorem fr_if_ge {a : Int} {off : Int} {tgt : Nat} (hd : decode M.2.1 pc = .ok (.ifCond .ge off, 3)) (ht : (pc : Int) + off = (tgt : Int)) (ha : -2147483648 ≤ a ∧ a ≤ 2147483647) (kt : 0 ≤ a → fw_R M d tgt L S w r w') (kf : a < 0 → fw_R M d (pc + 3) L S w r w') : fw_R M d pc L (.int (iI a) :: S) w r w' := by
  intro hN p l e R s m args below meth c g C H locs ls hH hS hl
  refine lv_if_ge C.1 C.2.1 hd ht (fun h => kt ?_ hN p l e R s m args below meth c g C H locs ls hH hS hl) (fun h => kf ?_ hN p l e R s m args below meth c g C H locs ls hH hS hl)
  · exact (iI_le (by decide) ha).mp h
  · exact Int.not_le.mp (fun q => h ((iI_le (by decide) ha).mpr q))
theorem fr_if_gt {a : Int} {off : Int} {tgt : Nat} (hd : decode M.2.1 pc = .ok (.ifCond .gt off, 3)) (ht : (pc : Int) + off = (tgt : Int)) (ha : -2147483648 ≤ a ∧ a ≤ 2147483647) (kt : 0 < a → fw_R M d tgt L S w r w') (kf : a ≤ 0 → fw_R M d (pc + 3) L S w r w') : fw_R M d pc L (.int (iI a) :: S) w r w' := by
  intro hN p l e R s m args below meth c g C H locs ls hH hS hl
  refine lv_if_gt C.1 C.2.1 hd ht (fun h => kt ?_ hN p l e R s m args below meth c g C H locs ls hH hS hl) (fun h => kf ?_ hN p l e R s m args below meth c g C H locs ls hH hS hl)
  · exact (iI_lt (by decide) ha).mp h
  · exact Int.not_lt.mp (fun q => h ((iI_lt (by decide) ha).mpr q))
theorem fr_if_le {a : Int} {off : Int} {tgt : Nat} (hd : decode M.2.1 pc = .ok (.ifCond .le off, 3)) (ht : (pc : Int) + off = (tgt : Int)) (ha : -2147483648 ≤ a ∧ a ≤ 2147483647) (kt : a ≤ 0 → fw_R M d tgt L S w r w') (kf : 0 < a → fw_R M d (pc + 3) L S w r w') : fw_R M d pc L (.int (iI a) :: S) w r w' := by
  intro hN p l e R s m args below meth c g C H locs ls hH hS hl
  refine lv_if_le C.1 C.2.1 hd ht (fun h => kt ?_ hN p l e R s m args below meth c g C H locs ls hH hS hl) (fun h => kf ?_ hN p l e R s m args below meth c g C H locs ls hH hS hl)
  · exact (iI_le ha (by decide)).mp h
  · exact Int.not_le.mp (fun q => h ((iI_le ha (by decide)).mpr q))
theorem fr_icmp_eq {a b : Int} {off : Int} {tgt : Nat} (hd : decode M.2.1 pc = .ok (.if_icmp .eq off, 3)) (ht : (pc : Int) + off = (tgt : Int)) (ha : -2147483648 ≤ a ∧ a ≤ 2147483647) (hb : -2147483648 ≤ b ∧ b ≤ 2147483647) (kt : a = b → fw_R M d tgt L S w r w') (kf : a ≠ b → fw_R M d (pc + 3) L S w r w') : fw_R M d pc L (.int (iI b) :: .int (iI a) :: S) w r w' := by
  intro hN p l e R s m args below meth c g C H locs ls hH hS hl
  exact lv_icmp_eq C.1 C.2.1 hd ht (fun h => kt ((iI_eq ha hb).mp h) hN p l e R s m args below meth c g C H locs ls hH hS hl) (fun h => kf (fun q => h ((iI_eq ha hb).mpr q)) hN p l e R s m args below meth c g C H locs ls hH hS hl)
theorem fr_icmp_ne {a b : Int} {off : Int} {tgt : Nat} (hd : decode M.2.1 pc = .ok (.if_icmp .ne off, 3)) (ht : (pc : Int) + off = (tgt : Int)) (ha : -2147483648 ≤ a ∧ a ≤ 2147483647) (hb : -2147483648 ≤ b ∧ b ≤ 2147483647) (kt : a ≠ b → fw_R M d tgt L S w r w') (kf : a = b → fw_R M d (pc + 3) L S w r w') : fw_R M d pc L (.int (iI b) :: .int (iI a) :: S) w r w' := by
  intro hN p l e R s m args below meth c g C H locs ls hH hS hl
  exact lv_icmp_ne C.1 C.2.1 hd ht (fun h => kt (fun q => h ((iI_eq ha hb).mpr q)) hN p l e R s m args below meth c g C H locs ls hH hS hl) (fun h => kf ((iI_eq ha hb).mp h) hN p l e R s m args below meth c g C H locs ls hH hS hl)
theorem fr_icmp_lt {a b : Int} {off : Int} {tgt : Nat} (hd : decode M.2.1 pc = .ok (.if_icmp .lt off, 3)) (ht : (pc : Int) + off = (tgt : Int)) (ha : -2147483648 ≤ a ∧ a ≤ 2147483647) (hb : -2147483648 ≤ b ∧ b ≤ 2147483647) (kt : a < b → fw_R M d tgt L S w r w') (kf : b ≤ a → fw_R M d (pc + 3) L S w r w') : fw_R M d pc L (.int (iI b) :: .int (iI a) :: S) w r w' := by
  intro hN p l e R s m args below meth c g C H locs ls hH hS hl
  exact lv_icmp_lt C.1 C.2.1 hd ht (fun h => kt ((iI_lt ha hb).mp h) hN p l e R s m args below meth c g C H locs ls hH hS hl) (fun h => kf (Int.not_lt.mp (fun q => h ((iI_lt ha hb).mpr q))) hN p l e R s m args below meth c g C H locs ls hH hS hl)
theorem fr_icmp_ge {a b : Int} {off : Int} {tgt : Nat} (hd : decode M.2.1 pc = .ok (.if_icmp .ge off, 3)) (ht : (pc : Int) + off = (tgt : Int)) (ha : -2147483648 ≤ a ∧ a ≤ 2147483647) (hb : -2147483648 ≤ b ∧ b ≤ 2147483647) (kt : b ≤ a → fw_R M d tgt L S w r w') (kf : a < b → fw_R M d (pc + 3) L S w r w') : fw_R M d pc L (.int (iI b) :: .int (iI a) :: S) w r w' := by
  intro hN p l e R s m args below meth c g C H locs ls hH hS hl
  refine lv_icmp_ge C.1 C.2.1 hd ht (fun h => kt ?_ hN p l e R s m args below meth c g C H locs ls hH hS hl) (fun h => kf ?_ hN p l e R s m args below meth c g C H locs ls hH hS hl)
  · exact (iI_le hb ha).mp h
  · exact Int.not_le.mp (fun q => h ((iI_le hb ha).mpr q))
theorem fr_icmp_gt {a b : Int} {off : Int} {tgt : Nat} (hd : decode M.2.1 pc = .ok (.if_icmp .gt off, 3)) (ht : (pc : Int) + off = (tgt : Int)) (ha : -2147483648 ≤ a ∧ a ≤ 2147483647) (hb : -2147483648 ≤ b ∧ b ≤ 2147483647) (kt : b < a → fw_R M d tgt L S w r w') (kf : a ≤ b → fw_R M d (pc + 3) L S w r w') : fw_R M d pc L (.int (iI b) :: .int (iI a) :: S) w r w' := by
  intro hN p l e R s m args below meth c g C H locs ls hH hS hl
  refine lv_icmp_gt C.1 C.2.1 hd ht (fun h => kt ?_ hN p l e R s m args below meth c g C H locs ls hH hS hl) (fun h => kf ?_ hN p l e R s m args below meth c g C H locs ls hH hS hl)
  · exact (iI_lt hb ha).mp h
  · exact Int.not_lt.mp (fun q => h ((iI_lt hb ha).mpr q))
theorem fr_icmp_le {a b : Int} {off : Int} {tgt : Nat} (hd : decode M.2.1 pc = .ok (.if_icmp .le off, 3)) (ht : (pc : Int) + off = (tgt : Int)) (ha : -2147483648 ≤ a ∧ a ≤ 2147483647) (hb : -2147483648 ≤ b ∧ b ≤ 2147483647) (kt : a ≤ b → fw_R M d tgt L S w r w') (kf : b < a → fw_R M d (pc + 3) L S w r w') : fw_R M d pc L (.int (iI b) :: .int (iI a) :: S) w r w' := by
  intro hN p l e R s m args below meth c g C H locs ls hH hS hl
  refine lv_icmp_le C.1 C.2.1 hd ht (fun h => kt ?_ hN p l e R s m args below meth c g C H locs ls hH hS hl) (fun h => kf ?_ hN p l e R s m args below meth c g C H locs ls hH hS hl)
  · exact (iI_le ha hb).mp h
  · exact Int.not_le.mp (fun q => h ((iI_le ha hb).mpr q))
theorem fr_tableIn {a : Int} {dflt lo hi : Int} {offs : Array Int} {len : Nat} {off : Int} {tgt : Nat} (hd : decode M.2.1 pc = .ok (.tableswitch dflt lo hi offs, len)) (ha : -2147483648 ≤ a ∧ a ≤ 2147483647) (h1 : lo ≤ a) (h2 : a ≤ hi) (ho : offs[(a - lo).toNat]? = some off) (ht : (pc : Int) + off = (tgt : Int)) (k : fw_R M d tgt L S w r w') : fw_R M d pc L (.int (iI a) :: S) w r w' := by
  intro hN p l e R s m args below meth c g C H locs ls hH hS hl
  exact lv_tableIn C.1 C.2.1 hd (by rw [fw_rng ha]; omega) (by rw [fw_rng ha]; omega) (by rw [fw_rng ha]; exact ho) ht (k hN p l e R s m args below meth c g C H locs ls hH hS hl)
theorem fr_tableOut {a : Int} {dflt lo hi : Int} {offs : Array Int} {len : Nat} {tgt : Nat} (hd : decode M.2.1 pc = .ok (.tableswitch dflt lo hi offs, len)) (ha : -2147483648 ≤ a ∧ a ≤ 2147483647) (h : a < lo ∨ hi < a) (ht : (pc : Int) + dflt = (tgt : Int)) (k : fw_R M d tgt L S w r w') : fw_R M d pc L (.int (iI a) :: S) w r w' := by
  intro hN p l e R s m args below meth c g C H locs ls hH hS hl
  exact lv_tableOut C.1 C.2.1 hd (by rw [fw_rng ha]; exact h) ht (k hN p l e R s m args below meth c g C H locs ls hH hS hl)
theorem fr_ldcw {index : Nat} {v : Int32} (hd : decode M.2.1 pc = .ok (.ldc_w index, 3)) (hw : Cond.constant M.1.cls index v ∈ okW) (k : fw_R M d (pc + 3) L (.int v :: S) w r w') : fw_R M d pc L S w r w' := by
  intro hN p l e R s m args below meth c g C H locs ls hH hS hl
  exact lv_ldcw C.1 C.2.1 C.2.2.2.2.1 (C.2.2.2.2.2.1 _ hw) hd (k hN p l e R s m args below meth c g C H locs ls hH hS hl)
theorem fr_ldc2 {index : Nat} {v : Int64} (hd : decode M.2.1 pc = .ok (.ldc2_w index, 3)) (hw : Cond.constantLong M.1.cls index v ∈ okW) (k : fw_R M d (pc + 3) L (.long v :: S) w r w') : fw_R M d pc L S w r w' := by
  intro hN p l e R s m args below meth c g C H locs ls hH hS hl
  exact lv_ldc2 C.1 C.2.1 C.2.2.2.2.1 (C.2.2.2.2.2.1 _ hw) hd (k hN p l e R s m args below meth c g C H locs ls hH hS hl)
/-- the ends -/
theorem fr_iret {x : Int32} (hd : decode M.2.1 pc = .ok (.ireturn, 1)) (hr : M.2.2.2 = some .int) (he : some (Value.int x) = r) (hw : w = w') : fw_R M d pc L [.int x] w r w' := by
  subst he; subst hw
  intro hN p l e R s m args below meth c g C H locs ls hH hS hl
  have hlk := C.2.2.2.2.2.2.2.1
  exact W.iret C.1 C.2.1 (C.2.2.1.trans hr) (fun t ht hW => ⟨rfl, by rw [ht]; exact hH, hS.F ht⟩) hS.2.2 hd hlk
theorem fr_zret {x : Int32} (hd : decode M.2.1 pc = .ok (.ireturn, 1)) (hr : M.2.2.2 = some .boolean) (hz : narrow .boolean (.int x) = .int x) (he : some (Value.int x) = r) (hw : w = w') : fw_R M d pc L [.int x] w r w' := by
  subst he; subst hw
  intro hN p l e R s m args below meth c g C H locs ls hH hS hl
  have hlk := C.2.2.2.2.2.2.2.1
  exact W.zret C.1 C.2.1 (C.2.2.1.trans hr) hz (fun t ht hW => ⟨rfl, by rw [ht]; exact hH, hS.F ht⟩) hS.2.2 hd hlk
theorem fr_lret {x : Int64} (hd : decode M.2.1 pc = .ok (.lreturn, 1)) (hr : M.2.2.2 = some .long) (he : some (Value.long x) = r) (hw : w = w') : fw_R M d pc L [.long x] w r w' := by
  subst he; subst hw
  intro hN p l e R s m args below meth c g C H locs ls hH hS hl
  have hlk := C.2.2.2.2.2.2.2.1
  exact W.lret C.1 C.2.1 (C.2.2.1.trans hr) (fun t ht hW => ⟨rfl, by rw [ht]; exact hH, hS.F ht⟩) hS.2.2 hd hlk
theorem fr_vret (hd : decode M.2.1 pc = .ok (.return_, 1)) (hr : M.2.2.2 = none) (he : none = r) (hw : w = w') : fw_R M d pc L [] w r w' := by
  subst he; subst hw
  intro hN p l e R s m args below meth c g C H locs ls hH hS hl
  have hlk := C.2.2.2.2.2.2.2.1
  exact W.vret C.1 C.2.1 (C.2.2.1.trans hr) (fun t ht hW => ⟨rfl, by rw [ht]; exact hH, hS.F ht⟩) hS.2.2 hd hlk
end FR
end
section
/-! fields, arrays, calls -/
section FC
variable {M : fw_M} {d pc : Nat} {L : List (Option Value)} {S : List Value} {w : fw_S} {r : Option Value} {w' : fw_S}
/-- the field read or written at pc: field k of the class ci -/
def fk_get (M : fw_M) (pc ci k : Nat) (put : Bool) : Prop := ∃ (index : Nat) (C : String) (T : u_T) (N : Nat) (host : String), decode M.2.1 pc = .ok (if put then .putfield index else .getfield index, 3) ∧ vwCl[ci]? = some (C, T, N) ∧ (∀ x ∈ u_ws C T N, x ∈ okW) ∧ k < N ∧ (T k).1 = C ∧ (Cond.fieldLink M.1.cls index C (T k).2.1 (T k).2.2.1 ∈ okW ∨ Cond.fieldLinkNest M.1.cls index C (T k).2.1 (T k).2.2.1 host ∈ fw_nest)
/-- what a store in the field asks besides -/
def fk_put (ci k : Nat) : Prop := ∃ (C : String) (T : u_T) (N : Nat) (ty : Nat → FieldType), vwCl[ci]? = some (C, T, N) ∧ (∀ k, k < N → parseFieldDescriptor (T k).2.2.1 = some (ty k)) ∧ (∀ a, a < N → ∀ b, b < N → a ≠ b → (T a).2.1 ≠ (T b).2.1) ∧ (T k).2.2.2 = false ∧ parseFieldDescriptor (T k).2.2.1 = some .int
theorem fr_get {ci k : Nat} {o : Nat} {fs : List Value} {v : Value} (hf : fk_get M pc ci k false) (hw : fw_g w o (.inl (ci, fs))) (hv : fs[k]? = some v) (kk : fw_R M d (pc + 3) L (v :: S) w r w') : fw_R M d pc L (.ref o :: S) w r w' := by
  intro hN p l e R s m args below meth c g C H locs ls hH hS hl
  obtain ⟨index, C', T, N, host, hd, hc, hin, hk, hT, hlk⟩ := hf
  have he : (fw_w g w)[o]? = some (fw_ad g o, .inr (ci, fs.map (fw_v (fw_ad g)))) := by rw [fw_w_get hw]; rfl
  have hv' : (fs.map (fw_v (fw_ad g)))[k]? = some (fw_v (fw_ad g) v) := by rw [List.getElem?_map, hv]; rfl
  rcases hlk with h | h
  · exact va_get (Ts := okW) C.1 C.2.1 C.2.2.2.2.2.1 hin C.2.2.2.2.1 C.2.2.2.2.2.2.2.2.1 hH o he hc k hk (C.2.2.2.2.2.1 _ h) (fun x hx => by rw [hT] at hx; exact hx) hv' hd (kk hN p l e R s m args below meth c g C H locs ls hH hS hl)
  · exact va_getN (Ts := okW) C.1 C.2.1 C.2.2.2.2.2.1 hin C.2.2.2.2.1 C.2.2.2.2.2.2.2.2.1 hH o he hc k hk (va_Nw.use rfl (C.2.2.2.2.2.2.1 _ h)) (fun x hx => by rw [hT] at hx; exact hx) hv' hd (kk hN p l e R s m args below meth c g C H locs ls hH hS hl)
theorem fr_put {ci k : Nat} {o : Nat} {fs fs' : List Value} {x : Int32} (hf : fk_get M pc ci k true) (hp : fk_put ci k) (hw : fw_g w o (.inl (ci, fs))) (hkl : k < fs.length) (he' : fs.set k (.int x) = fs') (kk : fw_R M d (pc + 3) L S (fw_up w o (.inl (ci, fs'))) r w') : fw_R M d pc L (.int x :: .ref o :: S) w r w' := by
  intro hN p l e R s m args below meth c g C H locs ls hH hS hl
  subst he'
  obtain ⟨index, C', T, N, host, hd, hc, hin, hk, hT, hlk⟩ := hf
  obtain ⟨C2, T2, N2, ty, hc2, hty, hnm, hfin, hdesc⟩ := hp
  cases hc.symm.trans hc2
  have he : (fw_w g w)[o]? = some (fw_ad g o, .inr (ci, fs.map (fw_v (fw_ad g)))) := by rw [fw_w_get hw]; rfl
  have key : ∀ (H1 : Heap) (locs1 : List Loc), va_P g.1 vwCl ((fw_w g w).set o (fw_ad g o, .inr (ci, (fs.map (fw_v (fw_ad g))).set k (.int x)))) H1 → fw_H g (fw_up w o (.inl (ci, fs.set k (.int x)))) H1 := by
    intro H1 locs1 hP
    have e1 : ((fs.map (fw_v (fw_ad g))).set k (.int x)) = (fs.set k (.int x)).map (fw_v (fw_ad g)) := by rw [List.map_set]; rfl
    rw [e1] at hP
    have e2 := fw_w_set (g := g) (w := w) (k := o) (e := .inl (ci, fs.set k (.int x))) hw.1
    rw [fw_H, ← e2]
    exact hP
  rcases hlk with h | h
  · exact va_put (Ts := okW) C.1 C.2.1 C.2.2.2.2.2.1 hin ty hty hnm C.2.2.2.2.1 C.2.2.2.2.2.2.2.2.1 hH (fw_D C.2.2.2.2.2.2.2.2.2.1) hS o he hc k hk (C.2.2.2.2.2.1 _ h) (fun x hx => by rw [hT] at hx; exact hx) hfin hdesc rfl rfl (by simpa using hkl) hd (fun H1 locs1 hP hD hS1 => kk hN p l e R s m args below meth c g C H1 locs1 ls (key H1 locs1 hP) hS1 hl)
  · exact va_putN (Ts := okW) C.1 C.2.1 C.2.2.2.2.2.1 hin ty hty hnm C.2.2.2.2.1 C.2.2.2.2.2.2.2.2.1 hH (fw_D C.2.2.2.2.2.2.2.2.2.1) hS o he hc k hk (va_Nw.use rfl (C.2.2.2.2.2.2.1 _ h)) (fun x hx => by rw [hT] at hx; exact hx) hfin hdesc rfl rfl (by simpa using hkl) hd (fun H1 locs1 hP hD hS1 => kk hN p l e R s m args below meth c g C H1 locs1 ls (key H1 locs1 hP) hS1 hl)
end FC
end
section
/-! arrays and calls -/
def fw_u (f : Nat → Int) (k : Nat) (v : Int) : Nat → Int := fun j => if j = k then v else f j
theorem fw_u_self (f : Nat → Int) (k : Nat) (v : Int) : fw_u f k v k = v := by simp [fw_u]
theorem fw_u_ne (f : Nat → Int) {k j : Nat} (v : Int) (h : j ≠ k) : fw_u f k v j = f j := by simp [fw_u, h]
theorem iI_nat (n : Nat) : iI (n : Int) = nI n := by
  unfold iI nI
  exact Int32.ofInt_eq_ofNat
theorem iI_cl {j n : Nat} (h : j < n) (hn : n ≤ 65536) : (iI (j : Int)).toNatClampNeg = j := by
  rw [iI_nat, nI_clamp (by omega)]
theorem iI_vp {j n : Nat} (h : j < n) (hn : n ≤ 65536) : vp_in (iI (j : Int)) n := by
  rw [iI_nat]; exact vp_in_nI h (by omega)
section FA
variable {M : fw_M} {d pc : Nat} {L : List (Option Value)} {S : List Value} {w : fw_S} {r : Option Value} {w' : fw_S}
theorem fr_iald {a n : Nat} {f : Nat → Int} {z : Int} (j : Nat) (hd : decode M.2.1 pc = .ok (.iaload, 1)) (hw : fw_g w a (.inr (n, .inl f))) (hz : z = (j : Int)) (hj : j < n) (hn : n ≤ 65536) (k : fw_R M d (pc + 1) L (.int (iI (f j)) :: S) w r w') : fw_R M d pc L (.int (iI z) :: .ref a :: S) w r w' := by
  intro hN p l e R s m args below meth c g C H locs ls hH hS hl
  subst hz
  refine va_iald C.1 C.2.1 C.2.2.2.2.2.2.2.2.1 hH a 0 (fw_w_get hw) rfl (iI_vp hj hn) hd ?_
  rw [iI_cl hj hn]
  exact k hN p l e R s m args below meth c g C H locs ls hH hS hl
theorem fr_lald {a n : Nat} {f : Nat → Int} {z : Int} (j : Nat) (hd : decode M.2.1 pc = .ok (.laload, 1)) (hw : fw_g w a (.inr (n, .inr f))) (hz : z = (j : Int)) (hj : j < n) (hn : n ≤ 65536) (k : fw_R M d (pc + 1) L (.long (lI (f j)) :: S) w r w') : fw_R M d pc L (.int (iI z) :: .ref a :: S) w r w' := by
  intro hN p l e R s m args below meth c g C H locs ls hH hS hl
  subst hz
  refine va_lald C.1 C.2.1 C.2.2.2.2.2.2.2.2.1 hH a 1 (fw_w_get hw) rfl (iI_vp hj hn) hd ?_
  rw [iI_cl hj hn]
  exact k hN p l e R s m args below meth c g C H locs ls hH hS hl
theorem fr_iast {a n : Nat} {f : Nat → Int} {z v : Int} (j : Nat) (hd : decode M.2.1 pc = .ok (.iastore, 1)) (hw : fw_g w a (.inr (n, .inl f))) (hz : z = (j : Int)) (hj : j < n) (hn : n ≤ 65536) (k : fw_R M d (pc + 1) L S (fw_up w a (.inr (n, .inl (fw_u f j v)))) r w') : fw_R M d pc L (.int (iI v) :: .int (iI z) :: .ref a :: S) w r w' := by
  intro hN p l e R s m args below meth c g C H locs ls hH hS hl
  subst hz
  refine va_iast C.1 C.2.1 C.2.2.2.2.2.2.2.2.1 hH (fw_D C.2.2.2.2.2.2.2.2.2.1) hS a 0 (fw_w_get hw) rfl (iI_vp hj hn) hd (fun H1 locs1 hP hD hS1 => ?_)
  rw [iI_cl hj hn] at hP
  have e1 : upd (fun j => iI (f j)) j (iI v) = fun i => iI (fw_u f j v i) := by
    funext i
    by_cases hi : i = j
    · subst hi; rw [pk_us, fw_u_self]
    · rw [pk_un hi, fw_u_ne _ _ hi]
  rw [e1] at hP
  have e2 := fw_w_set (g := g) (w := w) (k := a) (e := .inr (n, .inl (fw_u f j v))) hw.1
  exact k hN p l e R s m args below meth c g C H1 locs1 ls (by rw [fw_H, ← e2]; exact hP) hS1 hl
theorem fr_last {a n : Nat} {f : Nat → Int} {z v : Int} (j : Nat) (hd : decode M.2.1 pc = .ok (.lastore, 1)) (hw : fw_g w a (.inr (n, .inr f))) (hz : z = (j : Int)) (hj : j < n) (hn : n ≤ 65536) (k : fw_R M d (pc + 1) L S (fw_up w a (.inr (n, .inr (fw_u f j v)))) r w') : fw_R M d pc L (.long (lI v) :: .int (iI z) :: .ref a :: S) w r w' := by
  intro hN p l e R s m args below meth c g C H locs ls hH hS hl
  subst hz
  refine va_last C.1 C.2.1 C.2.2.2.2.2.2.2.2.1 hH (fw_D C.2.2.2.2.2.2.2.2.2.1) hS a 1 (fw_w_get hw) rfl (iI_vp hj hn) hd (fun H1 locs1 hP hD hS1 => ?_)
  rw [iI_cl hj hn] at hP
  have e1 : vp_updL (fun j => lI (f j)) j (lI v) = fun i => lI (fw_u f j v i) := by
    funext i
    by_cases hi : i = j
    · subst hi; rw [pk_uLs, fw_u_self]
    · rw [pk_uLn hi, fw_u_ne _ _ hi]
  rw [e1] at hP
  have e2 := fw_w_set (g := g) (w := w) (k := a) (e := .inr (n, .inr (fw_u f j v))) hw.1
  exact k hN p l e R s m args below meth c g C H1 locs1 ls (by rw [fw_H, ← e2]; exact hP) hS1 hl
theorem fr_alen {a n : Nat} {f : Nat → Int} (hd : decode M.2.1 pc = .ok (.arraylength, 1)) (hw : fw_g w a (.inr (n, .inl f))) (k : fw_R M d (pc + 1) L (.int (iI n) :: S) w r w') : fw_R M d pc L (.ref a :: S) w r w' := by
  intro hN p l e R s m args below meth c g C H locs ls hH hS hl
  exact va_alen C.1 C.2.1 C.2.2.2.2.2.2.2.2.1 hH a 0 (fw_w_get hw) rfl (iI_nat n).symm hd (k hN p l e R s m args below meth c g C H locs ls hH hS hl)
end FA
theorem fw_nest_warm {x : Cond} (hx : x ∈ fw_nest) {s U : State} (hW : s.WarmedH U.vm) (h : va_Nw x s) : va_Nw x U := by
  have h2 := (List.mem_filter.mp hx).2
  cases x <;> first | exact va_Nw.warmF hW h | exact va_Nw.warmM hW h | exact absurd h2 (by simp [fw_isN])
theorem fw_nest_tabs {x : Cond} (hx : x ∈ fw_nest) : x.onTables = true := by
  have h2 := (List.mem_filter.mp hx).2
  cases x <;> first | rfl | exact absurd h2 (by simp [fw_isN])
def fw_B (g : fw_G) (w : fw_S) (sz : Nat) (U : State) : Prop := U.heap.size = sz ∧ fw_H g w U.heap ∧ va_K g.1 vwCl (fw_ty g) U ∧ ∀ x ∈ fw_nest, va_Nw x U
theorem fw_blind {g : fw_G} {w : fw_S} {sz : Nat} {a : List Value} : FrameBlind (va_Pc a (fw_B g w sz)) := by
  intro v U f mk h
  obtain ⟨h1, h2, h3, h4, h5⟩ := h
  exact ⟨h1, h2, h3, va_K.moved (u := U) (U := U.calling f mk v) (Vm.Alike.refl U.vm) h4, fun x hx => va_Nw.same (u := U) (U := U.calling f mk v) (fw_nest_tabs hx) rfl (h5 x hx)⟩
section FCALL
variable {p : Program} {l : Launch} {e : Env} {R : Room} {s : State} {m : MethodId} {args : Array Value} {below : List Frame} {meth : Method} {c : Code} {H : Heap} {locs : List Loc} {cells slots : Nat} {Q : State → Prop}
theorem fw_after {g : fw_G} {w w1 : fw_S} {r1 : Option Value} {pc : Nat} {ls : Array Slot} {st0 rest : List Value} {a : Array Value} (hr : va_Run p l e R s m args below meth c H locs cells slots 0 0 (F0 m pc ls st0) rest (fw_Q g r1 w1 H.size a) (fw_A g w.1 H.size)) (hN1 : w1.1 = w.1) (hS : va_S (fw_A g w.1 s.heap.size) s.heap H locs)
    (kk : ∀ (H1 : Heap) (locs1 : List Loc), fw_H g w1 H1 → va_S (fw_A g w.1 s.heap.size) s.heap H1 locs1 → W p l e R s m args below meth c H1 locs1 cells slots Q (F0 m (pc + 3) ls ((r1.map (fw_v (fw_ad g))).toList ++ rest))) : W p l e R s m args below meth c H locs cells slots Q (F0 m pc ls st0) := by
  intro T hT X
  obtain ⟨v, st₀, t, T', L, h0, X', hL, e1, e2, ⟨hv, hH1, hz, hk⟩, st⟩ := hr T hT X
  cases hv
  rw [h0, hN1] at hk
  rw [h0] at hz
  have hA : ∀ q, fw_A g w.1 H.size q → fw_A g w.1 s.heap.size q := fun q hq => by
    rcases hq with h | h
    · exact Or.inl h
    · exact Or.inr (Nat.le_trans hS.1 h)
  obtain ⟨t2, a1, b1⟩ := kk T'.heap (locs ++ L) (by rw [e1]; exact hH1) ⟨Nat.le_trans hS.1 (by rw [e1]; exact hz), fun q h1 h2 => by
      rw [e1, hk q (Nat.lt_of_lt_of_le h1 hS.1) (fun z => h2 (hA q z))]
      exact hS.2.1 q h1 h2, fun q hq => by
      rcases List.mem_append.mp hq with h | h
      · exact hS.2.2 q h
      · exact hA _ (hL q h)⟩ T' rfl X'
  exact ⟨t2, st t2 a1, b1⟩
end FCALL
def fk_V (M Mc : fw_M) (pc ci n : Nat) : Prop := ∃ (index : Nat) (host : String) (T : u_T) (N : Nat), decode M.2.1 pc = .ok (.invokevirtual index, 3) ∧ vwCl[ci]? = some (Mc.1.cls, T, N) ∧ (Cond.methodLink M.1.cls index Mc.1 ∈ okW ∨ Cond.methodLinkNest M.1.cls index Mc.1 host ∈ fw_nest) ∧ Cond.instanceMethod Mc.1 ∈ okW ∧ Cond.selects Mc.1.cls Mc.1 Mc.1 ∈ okW ∧ Cond.initialized Mc.1.cls ∈ okW ∧ Cond.code Mc.1 Mc.2.1 Mc.2.2.1 Mc.2.2.2 ∈ okW ∧ (Mc.1.cls ≠ "java/lang/invoke/MethodHandle" ∧ Mc.1.cls ≠ "java/lang/invoke/VarHandle" ∧ (parseMethodDescriptor Mc.1.desc).map (fun d => d.parameters.length) = some n) ∧ Mc.2.2.1 ≤ 45
def fk_S (M Mc : fw_M) (pc n : Nat) : Prop := ∃ (index : Nat) (host : String), decode M.2.1 pc = .ok (.invokestatic index, 3) ∧ (Cond.methodLink M.1.cls index Mc.1 ∈ okW ∨ Cond.methodLinkNest M.1.cls index Mc.1 host ∈ fw_nest) ∧ Cond.static Mc.1 ∈ okW ∧ Cond.initialized Mc.1.cls ∈ okW ∧ Cond.code Mc.1 Mc.2.1 Mc.2.2.1 Mc.2.2.2 ∈ okW ∧ (Mc.1.cls ≠ "java/lang/invoke/MethodHandle" ∧ Mc.1.cls ≠ "java/lang/invoke/VarHandle" ∧ (parseMethodDescriptor Mc.1.desc).map (fun d => d.parameters.length) = some n) ∧ Mc.2.2.1 ≤ 45
def fw_cat (S : List Value) : Nat := (S.map fun v => v.category).sum
theorem fw_cat_map (ad : Nat → Nat) (S : List Value) : ((S.map (fw_v ad)).map fun v => v.category).sum = fw_cat S := by
  unfold fw_cat
  rw [List.map_map]
  congr 1
  exact List.map_congr_left (fun v _ => fw_v_cat ad v)
theorem fw_goodW {Mc : fw_M} {s : State} {args : Array Value} (hts : ∀ w ∈ okW, w.before args s = true) (hcode : Cond.code Mc.1 Mc.2.1 Mc.2.2.1 Mc.2.2.2 ∈ okW) : GoodIn okW (fw_ws Mc) := by
  intro x hx
  rcases List.mem_cons.mp hx with rfl | h
  · exact ⟨hcode, good_of_word (okW_good hcode)⟩
  · exact ⟨h, good_of_word (okW_good h)⟩
section FK
variable {M : fw_M} {d pc : Nat} {L : List (Option Value)} {S S0 : List Value} {w w1 : fw_S} {r : Option Value} {w' : fw_S}
theorem fr_callV {Mc : fw_M} {dc ci n o : Nat} {As : List Value} {fs : List Value} {r1 : Option Value} (hf : fk_V M Mc pc ci n) (hK : fw_K dc Mc (.ref o :: As) w r1 w1) (hdc : dc + 1 ≤ d) (hw : fw_g w o (.inl (ci, fs))) (hn : As.length = n) (hs : S = As.reverse ++ .ref o :: S0) (hc : Nat.ble (fw_cat S0) 8 = true) (kk : fw_R M d (pc + 3) L (r1.toList ++ S0) w1 r w') : fw_R M d pc L S w r w' := by
  intro hN p l e R s m args below meth c g C H locs ls hH hS hl
  subst hs
  obtain ⟨index, host, T0, N0, hd, hci, hlk, hin, hsel, hini, hcode, hdd, hml⟩ := hf
  obtain ⟨hN1, hM⟩ := hK
  have hMet := hM l g H.size C.2.2.2.2.2.2.2.2.2.1
  have hts := C.2.2.2.2.2.1
  have hG := fw_goodW hts hcode
  have hfx : CallFix p m c M.2.1 M.2.2.1 s args okW M.1.cls := ⟨C.1, C.2.1, C.2.2.2.1, C.2.2.2.2.1, hts⟩
  have hKs := C.2.2.2.2.2.2.2.2.1
  have hR : (fw_rm dc).frames + 1 ≤ R.frames ∧ 8 + (Mc.2.2.1 + 11) + (fw_rm dc).locals ≤ R.locals := by
    have h1 := C.2.2.2.2.2.2.2.2.2.2.1
    have h2 := C.2.2.2.2.2.2.2.2.2.2.2
    refine ⟨Nat.le_trans hdc h1, ?_⟩
    show 8 + (Mc.2.2.1 + 11) + 64 * dc ≤ R.locals
    omega
  have hpre : PreV s H Mc.1.cls (fw_ad g o) (va_Pc ((Value.ref o :: As).map (fw_v (fw_ad g))) (fw_B g w H.size)) (As.map (fw_v (fw_ad g))) := by
    refine ⟨fw_blind, va_recv hKs hH hci (fw_w_get hw), fun U hU hW => ⟨rfl, by rw [hU], by rw [hU]; exact hH, va_K.moved hW.alike hKs, fun x hx => fw_nest_warm hx hW (C.2.2.2.2.2.2.1 x hx)⟩⟩
  have hstk : (As.reverse ++ .ref o :: S0).map (fw_v (fw_ad g)) = (As.map (fw_v (fw_ad g))).reverse ++ .ref (fw_ad g o) :: S0.map (fw_v (fw_ad g)) := by
    rw [List.map_append, List.map_reverse]; rfl
  have hcat : 2 * 0 + ((S0.map (fw_v (fw_ad g))).map fun v => v.category).sum ≤ 8 := by rw [fw_cat_map]; have := Nat.le_of_ble_eq_true hc; omega
  have hgoal : ∀ H1 locs1, fw_H g w1 H1 → va_S (fw_A g w.1 s.heap.size) s.heap H1 locs1 → W p l e R s m args below meth c H1 locs1 0 0 (MQ below (fw_Q g r w' s.heap.size) args s 0 0 (fw_A g w.1 s.heap.size)) (F0 m (pc + 3) ls ((r1.map (fw_v (fw_ad g))).toList ++ S0.map (fw_v (fw_ad g)))) := by
    intro H1 locs1 h1 h2
    have h3 := kk (by rw [hN, hN1]) p l e R s m args below meth c g (by rw [hN1]; exact C) H1 locs1 ls h1 (by rw [hN1]; exact h2) hl
    rw [hN1, List.map_append] at h3
    have e1 : r1.toList.map (fw_v (fw_ad g)) = (r1.map (fw_v (fw_ad g))).toList := by cases r1 <;> rfl
    rw [e1] at h3
    exact h3
  rw [hstk]
  rcases hlk with h | h
  · exact fw_after (va_runV (n := n) hfx hMet (cwV n hts (fun x hx => by
      unfold wsV at hx
      rcases List.mem_append.mp hx with h1 | h1
      · have : x ∈ okW := by
          simp only [List.mem_cons, List.not_mem_nil, or_false] at h1
          rcases h1 with rfl | rfl | rfl | rfl
          · exact h
          · exact hin
          · exact hsel
          · exact hini
        exact ⟨this, good_of_word (okW_good this)⟩
      · exact hG x h1) rfl rfl rfl ⟨rfl, hdd⟩ hR) hpre rfl (by simpa using hn) hl.1 rfl hcat hd ⟨Nat.zero_le _, Nat.zero_le _⟩) hN1 hS hgoal
  · exact fw_after (va_runVN (n := n) (host := host) hfx hMet ⟨va_cnB n hts hG rfl rfl rfl (C.2.2.2.2.2.2.1 _ h) (hts _ hini) hdd hR, hts _ hin, hts _ hsel⟩ hpre rfl (by simpa using hn) hl.1 rfl hcat hd ⟨Nat.zero_le _, Nat.zero_le _⟩) hN1 hS hgoal
theorem fr_callS {Mc : fw_M} {dc n : Nat} {As : List Value} {r1 : Option Value} (hf : fk_S M Mc pc n) (hK : fw_K dc Mc As w r1 w1) (hdc : dc + 1 ≤ d) (hn : As.length = n) (hs : S = As.reverse ++ S0) (hc : Nat.ble (fw_cat S0) 8 = true) (kk : fw_R M d (pc + 3) L (r1.toList ++ S0) w1 r w') : fw_R M d pc L S w r w' := by
  intro hN p l e R s m args below meth c g C H locs ls hH hS hl
  subst hs
  obtain ⟨index, host, hd, hlk, hst, hini, hcode, hdd, hml⟩ := hf
  obtain ⟨hN1, hM⟩ := hK
  have hMet := hM l g H.size C.2.2.2.2.2.2.2.2.2.1
  have hts := C.2.2.2.2.2.1
  have hG := fw_goodW hts hcode
  have hfx : CallFix p m c M.2.1 M.2.2.1 s args okW M.1.cls := ⟨C.1, C.2.1, C.2.2.2.1, C.2.2.2.2.1, hts⟩
  have hKs := C.2.2.2.2.2.2.2.2.1
  have hR : (fw_rm dc).frames + 1 ≤ R.frames ∧ 8 + (Mc.2.2.1 + 11) + (fw_rm dc).locals ≤ R.locals := by
    have h1 := C.2.2.2.2.2.2.2.2.2.2.1
    have h2 := C.2.2.2.2.2.2.2.2.2.2.2
    refine ⟨Nat.le_trans hdc h1, ?_⟩
    show 8 + (Mc.2.2.1 + 11) + 64 * dc ≤ R.locals
    omega
  have hpre : PreS s H (va_Pc (As.map (fw_v (fw_ad g))) (fw_B g w H.size)) (As.map (fw_v (fw_ad g))) := by
    refine ⟨fw_blind, fun U hU hW => ⟨rfl, by rw [hU], by rw [hU]; exact hH, va_K.moved hW.alike hKs, fun x hx => fw_nest_warm hx hW (C.2.2.2.2.2.2.1 x hx)⟩⟩
  have hstk : (As.reverse ++ S0).map (fw_v (fw_ad g)) = (As.map (fw_v (fw_ad g))).reverse ++ S0.map (fw_v (fw_ad g)) := by
    rw [List.map_append, List.map_reverse]
  have hcat : 2 * 0 + ((S0.map (fw_v (fw_ad g))).map fun v => v.category).sum ≤ 8 := by rw [fw_cat_map]; have := Nat.le_of_ble_eq_true hc; omega
  have hgoal : ∀ H1 locs1, fw_H g w1 H1 → va_S (fw_A g w.1 s.heap.size) s.heap H1 locs1 → W p l e R s m args below meth c H1 locs1 0 0 (MQ below (fw_Q g r w' s.heap.size) args s 0 0 (fw_A g w.1 s.heap.size)) (F0 m (pc + 3) ls ((r1.map (fw_v (fw_ad g))).toList ++ S0.map (fw_v (fw_ad g)))) := by
    intro H1 locs1 h1 h2
    have h3 := kk (by rw [hN, hN1]) p l e R s m args below meth c g (by rw [hN1]; exact C) H1 locs1 ls h1 (by rw [hN1]; exact h2) hl
    rw [hN1, List.map_append] at h3
    have e1 : r1.toList.map (fw_v (fw_ad g)) = (r1.map (fw_v (fw_ad g))).toList := by cases r1 <;> rfl
    rw [e1] at h3
    exact h3
  rw [hstk]
  rcases hlk with h | h
  · exact fw_after (va_runS (n := n) hfx hMet (va_cwS n hts (fun x hx => by
      unfold va_wsS at hx
      rcases List.mem_append.mp hx with h1 | h1
      · have : x ∈ okW := by
          simp only [List.mem_cons, List.not_mem_nil, or_false] at h1
          rcases h1 with rfl | rfl | rfl
          · exact h
          · exact hst
          · exact hini
        exact ⟨this, good_of_word (okW_good this)⟩
      · exact hG x h1) rfl rfl rfl hdd hR) hpre rfl (by simpa using hn) hl.1 rfl hcat hd ⟨Nat.zero_le _, Nat.zero_le _⟩) hN1 hS hgoal
  · exact fw_after (va_runSN (n := n) (host := host) hfx hMet ⟨va_cnB n hts hG rfl rfl rfl (C.2.2.2.2.2.2.1 _ h) (hts _ hini) hdd hR, hts _ hst, trivial⟩ hpre rfl (by simpa using hn) hl.1 rfl hcat hd ⟨Nat.zero_le _, Nat.zero_le _⟩) hN1 hS hgoal
/-- Math's three, whose own rows the kit has -/
def fk_M (M : fw_M) (pc : Nat) (y : MethodName) (cc : ByteArray) (n : Nat) : Prop := ∃ index : Nat, decode M.2.1 pc = .ok (.invokestatic index, 3) ∧ Cond.methodLink M.1.cls index y ∈ okW ∧ Cond.static y ∈ okW ∧ Cond.initialized "java/lang/Math" ∈ okW ∧ Cond.code y cc n (some .int) ∈ okW
theorem fr_max {a b : Int} (hf : fk_M M pc Lib.Math.max.name Lib.Math.max.code 2) (ha : -2147483648 ≤ a ∧ a ≤ 2147483647) (hb : -2147483648 ≤ b ∧ b ≤ 2147483647) (hc : Nat.ble (fw_cat S0) 8 = true) (hd1 : 1 ≤ d) (kk : fw_R M d (pc + 3) L (.int (iI (max a b)) :: S0) w r w') : fw_R M d pc L (.int (iI b) :: .int (iI a) :: S0) w r w' := by
  intro hN p l e R s m args below meth c g C H locs ls hH hS hl
  obtain ⟨index, hd, h1, h2, h3, h4⟩ := hf
  have hts := C.2.2.2.2.2.1
  have r1 := C.2.2.2.2.2.2.2.2.2.2.1
  have r2 := C.2.2.2.2.2.2.2.2.2.2.2
  refine va_mmax C.1 C.2.1 (C.2.2.2.1.trans hl.1.symm) C.2.2.2.2.1 (hts _ h1) (hts _ h2) (hts _ h3) (hts _ h4) (by omega) (by rw [fw_cat_map]; have := Nat.le_of_ble_eq_true hc; omega) (Nat.zero_le _) (Nat.zero_le _) hd ?_
  have e1 : (if iI a < iI b then iI b else iI a) = iI (max a b) := by
    by_cases h : a < b
    · rw [if_pos ((iI_lt ha hb).mpr h), Int.max_eq_right (by omega)]
    · rw [if_neg (fun q => h ((iI_lt ha hb).mp q)), Int.max_eq_left (by omega)]
  rw [e1]
  exact kk hN p l e R s m args below meth c g C H locs ls hH hS hl
theorem fr_min {a b : Int} (hf : fk_M M pc Lib.Math.min.name Lib.Math.min.code 2) (ha : -2147483648 ≤ a ∧ a ≤ 2147483647) (hb : -2147483648 ≤ b ∧ b ≤ 2147483647) (hc : Nat.ble (fw_cat S0) 8 = true) (hd1 : 1 ≤ d) (kk : fw_R M d (pc + 3) L (.int (iI (min a b)) :: S0) w r w') : fw_R M d pc L (.int (iI b) :: .int (iI a) :: S0) w r w' := by
  intro hN p l e R s m args below meth c g C H locs ls hH hS hl
  obtain ⟨index, hd, h1, h2, h3, h4⟩ := hf
  have hts := C.2.2.2.2.2.1
  have r1 := C.2.2.2.2.2.2.2.2.2.2.1
  have r2 := C.2.2.2.2.2.2.2.2.2.2.2
  refine va_mmin C.1 C.2.1 (C.2.2.2.1.trans hl.1.symm) C.2.2.2.2.1 (hts _ h1) (hts _ h2) (hts _ h3) (hts _ h4) (by omega) (by rw [fw_cat_map]; have := Nat.le_of_ble_eq_true hc; omega) (Nat.zero_le _) (Nat.zero_le _) hd ?_
  have e1 : (if iI b < iI a then iI b else iI a) = iI (min a b) := by
    by_cases h : b < a
    · rw [if_pos ((iI_lt hb ha).mpr h), Int.min_eq_right (by omega)]
    · rw [if_neg (fun q => h ((iI_lt hb ha).mp q)), Int.min_eq_left (by omega)]
  rw [e1]
  exact kk hN p l e R s m args below meth c g C H locs ls hH hS hl
theorem fr_abs {a : Int} (hf : fk_M M pc Lib.Math.abs.name Lib.Math.abs.code 1) (ha : -2147483648 ≤ a ∧ a ≤ 2147483647) (hc : Nat.ble (fw_cat S0) 8 = true) (hd1 : 1 ≤ d) (kk : fw_R M d (pc + 3) L (.int (iI (a.natAbs : Int)) :: S0) w r w') : fw_R M d pc L (.int (iI a) :: S0) w r w' := by
  intro hN p l e R s m args below meth c g C H locs ls hH hS hl
  obtain ⟨index, hd, h1, h2, h3, h4⟩ := hf
  have hts := C.2.2.2.2.2.1
  have r1 := C.2.2.2.2.2.2.2.2.2.2.1
  have r2 := C.2.2.2.2.2.2.2.2.2.2.2
  refine va_mabs C.1 C.2.1 (C.2.2.2.1.trans hl.1.symm) C.2.2.2.2.1 (hts _ h1) (hts _ h2) (hts _ h3) (hts _ h4) (by omega) (by rw [fw_cat_map]; have := Nat.le_of_ble_eq_true hc; omega) (Nat.zero_le _) (Nat.zero_le _) hd ?_
  have e1 : (if 0 ≤ iI a then iI a else 0 - iI a) = iI (a.natAbs : Int) := by
    show (if iI 0 ≤ iI a then iI a else iI 0 - iI a) = _
    by_cases h : 0 ≤ a
    · rw [if_pos ((iI_le (a := 0) (by decide) ha).mpr h), show ((a.natAbs : Nat) : Int) = a by omega]
    · rw [if_neg (fun q => h ((iI_le (a := 0) (by decide) ha).mp q)), iI_sub, show ((a.natAbs : Nat) : Int) = 0 - a by omega]
  rw [e1]
  exact kk hN p l e R s m args below meth c g C H locs ls hH hS hl
end FK
end
section
/-! the methods, and what each field and call of theirs asks: by program -/
set_option maxRecDepth 20000 in
theorem fw_nm {w : Cond} {i : Nat} (h : lw_tbl[i]? = some w) (hg : fw_isN w = true) : w ∈ fw_nest := List.mem_filter.mpr ⟨List.mem_of_getElem? h, hg⟩
set_option maxRecDepth 20000 in
theorem inX0 : ∀ x ∈ u_ws RX0 TX0 1, x ∈ okW := by
  intro x hx
  obtain ⟨k, hk, rfl⟩ := List.mem_map.mp hx
  have hk := List.mem_range.mp hk
  match k, hk with
  | 0, _ => exact (okm (i := 173) rfl rfl)
set_option maxRecDepth 20000 in
theorem inX1 : ∀ x ∈ u_ws RX1 TX1 4, x ∈ okW := by
  intro x hx
  obtain ⟨k, hk, rfl⟩ := List.mem_map.mp hx
  have hk := List.mem_range.mp hk
  match k, hk with
  | 0, _ => exact (okm (i := 89) rfl rfl)
  | 1, _ => exact (okm (i := 91) rfl rfl)
  | 2, _ => exact (okm (i := 93) rfl rfl)
  | 3, _ => exact (okm (i := 95) rfl rfl)
set_option maxRecDepth 20000 in
theorem pfX1_2 : fk_put 1 2 := ⟨RX1, TX1, 4, tyX1, rfl, tyX1_ok, nmX1, rfl, rfl⟩
set_option maxRecDepth 20000 in
theorem pfX1_3 : fk_put 1 3 := ⟨RX1, TX1, 4, tyX1, rfl, tyX1_ok, nmX1, rfl, rfl⟩
set_option maxRecDepth 20000 in
theorem inX2 : ∀ x ∈ u_ws RX2 TX2 7, x ∈ okW := by
  intro x hx
  obtain ⟨k, hk, rfl⟩ := List.mem_map.mp hx
  have hk := List.mem_range.mp hk
  match k, hk with
  | 0, _ => exact (okm (i := 151) rfl rfl)
  | 1, _ => exact (okm (i := 153) rfl rfl)
  | 2, _ => exact (okm (i := 155) rfl rfl)
  | 3, _ => exact (okm (i := 157) rfl rfl)
  | 4, _ => exact (okm (i := 159) rfl rfl)
  | 5, _ => exact (okm (i := 161) rfl rfl)
  | 6, _ => exact (okm (i := 163) rfl rfl)
set_option maxRecDepth 20000 in
theorem pfX2_2 : fk_put 2 2 := ⟨RX2, TX2, 7, tyX2, rfl, tyX2_ok, nmX2, rfl, rfl⟩
set_option maxRecDepth 20000 in
theorem pfX2_3 : fk_put 2 3 := ⟨RX2, TX2, 7, tyX2, rfl, tyX2_ok, nmX2, rfl, rfl⟩
set_option maxRecDepth 20000 in
theorem pfX2_4 : fk_put 2 4 := ⟨RX2, TX2, 7, tyX2, rfl, tyX2_ok, nmX2, rfl, rfl⟩
set_option maxRecDepth 20000 in
theorem pfX2_5 : fk_put 2 5 := ⟨RX2, TX2, 7, tyX2, rfl, tyX2_ok, nmX2, rfl, rfl⟩
set_option maxRecDepth 20000 in
theorem pfX2_6 : fk_put 2 6 := ⟨RX2, TX2, 7, tyX2, rfl, tyX2_ok, nmX2, rfl, rfl⟩
set_option maxRecDepth 20000 in
theorem inX3 : ∀ x ∈ u_ws RX3 TX3 2, x ∈ okW := by
  intro x hx
  obtain ⟨k, hk, rfl⟩ := List.mem_map.mp hx
  have hk := List.mem_range.mp hk
  match k, hk with
  | 0, _ => exact (okm (i := 106) rfl rfl)
  | 1, _ => exact (okm (i := 108) rfl rfl)
set_option maxRecDepth 20000 in
theorem inX4 : ∀ x ∈ u_ws RX4 TX4 4, x ∈ okW := by
  intro x hx
  obtain ⟨k, hk, rfl⟩ := List.mem_map.mp hx
  have hk := List.mem_range.mp hk
  match k, hk with
  | 0, _ => exact (okm (i := 128) rfl rfl)
  | 1, _ => exact (okm (i := 130) rfl rfl)
  | 2, _ => exact (okm (i := 132) rfl rfl)
  | 3, _ => exact (okm (i := 134) rfl rfl)
set_option maxRecDepth 20000 in
theorem inX5 : ∀ x ∈ u_ws RX5 TX5 1, x ∈ okW := by
  intro x hx
  obtain ⟨k, hk, rfl⟩ := List.mem_map.mp hx
  have hk := List.mem_range.mp hk
  match k, hk with
  | 0, _ => exact (okm (i := 184) rfl rfl)
set_option maxRecDepth 20000 in
theorem inX6 : ∀ x ∈ u_ws RX6 TX6 2, x ∈ okW := by
  intro x hx
  obtain ⟨k, hk, rfl⟩ := List.mem_map.mp hx
  have hk := List.mem_range.mp hk
  match k, hk with
  | 0, _ => exact (okm (i := 70) rfl rfl)
  | 1, _ => exact (okm (i := 72) rfl rfl)
set_option maxRecDepth 20000 in
theorem pfX6_1 : fk_put 6 1 := ⟨RX6, TX6, 2, tyX6, rfl, tyX6_ok, nmX6, rfl, rfl⟩
set_option maxRecDepth 20000 in
theorem inX7 : ∀ x ∈ u_ws RX7 TX7 7, x ∈ okW := by
  intro x hx
  obtain ⟨k, hk, rfl⟩ := List.mem_map.mp hx
  have hk := List.mem_range.mp hk
  match k, hk with
  | 0, _ => exact (okm (i := 194) rfl rfl)
  | 1, _ => exact (okm (i := 196) rfl rfl)
  | 2, _ => exact (okm (i := 198) rfl rfl)
  | 3, _ => exact (okm (i := 200) rfl rfl)
  | 4, _ => exact (okm (i := 202) rfl rfl)
  | 5, _ => exact (okm (i := 204) rfl rfl)
  | 6, _ => exact (okm (i := 206) rfl rfl)
set_option maxRecDepth 20000 in
theorem inX8 : ∀ x ∈ u_ws RX8 TX8 10, x ∈ okW := by
  intro x hx
  obtain ⟨k, hk, rfl⟩ := List.mem_map.mp hx
  have hk := List.mem_range.mp hk
  match k, hk with
  | 0, _ => exact (okm (i := 522) rfl rfl)
  | 1, _ => exact (okm (i := 524) rfl rfl)
  | 2, _ => exact (okm (i := 526) rfl rfl)
  | 3, _ => exact (okm (i := 528) rfl rfl)
  | 4, _ => exact (okm (i := 530) rfl rfl)
  | 5, _ => exact (okm (i := 532) rfl rfl)
  | 6, _ => exact (okm (i := 534) rfl rfl)
  | 7, _ => exact (okm (i := 536) rfl rfl)
  | 8, _ => exact (okm (i := 538) rfl rfl)
  | 9, _ => exact (okm (i := 540) rfl rfl)
set_option maxRecDepth 20000 in
theorem pfX8_0 : fk_put 8 0 := ⟨RX8, TX8, 10, tyX8, rfl, tyX8_ok, nmX8, rfl, rfl⟩
set_option maxRecDepth 20000 in
theorem pfX8_8 : fk_put 8 8 := ⟨RX8, TX8, 10, tyX8, rfl, tyX8_ok, nmX8, rfl, rfl⟩
set_option maxRecDepth 20000 in
theorem pfX8_9 : fk_put 8 9 := ⟨RX8, TX8, 10, tyX8, rfl, tyX8_ok, nmX8, rfl, rfl⟩
abbrev mX0_init : fw_M := (yX0_init, cX0_init, 2, none)
abbrev mX0_nearest : fw_M := (yX0_nearest, cX0_nearest, 7, some .int)
abbrev mX0_cost : fw_M := (yX0_cost, cX0_cost, 7, some .int)
abbrev mX0_wayToNearest : fw_M := (yX0_wayToNearest, cX0_wayToNearest, 5, some .int)
abbrev mX1_init : fw_M := (yX1_init, cX1_init, 2, none)
abbrev mX1_hasLaw : fw_M := (yX1_hasLaw, cX1_hasLaw, 1, some .boolean)
abbrev mX1_judge : fw_M := (yX1_judge, cX1_judge, 2, none)
abbrev mX1_note : fw_M := (yX1_note, cX1_note, 2, none)
abbrev mX1_judgeDetours : fw_M := (yX1_judgeDetours, cX1_judgeDetours, 5, none)
abbrev mX1_judgeTrees : fw_M := (yX1_judgeTrees, cX1_judgeTrees, 6, none)
abbrev mX1_sumsStickOut : fw_M := (yX1_sumsStickOut, cX1_sumsStickOut, 5, some .boolean)
abbrev mX1_judgeNests : fw_M := (yX1_judgeNests, cX1_judgeNests, 5, none)
abbrev mX1_greatestIsAlone : fw_M := (yX1_greatestIsAlone, cX1_greatestIsAlone, 3, some .boolean)
abbrev mX1_judgeWeights : fw_M := (yX1_judgeWeights, cX1_judgeWeights, 8, none)
abbrev mX1_pullOn : fw_M := (yX1_pullOn, cX1_pullOn, 4, some .int)
abbrev mX2_init : fw_M := (yX2_init, cX2_init, 2, none)
abbrev mX2_isOrder : fw_M := (yX2_isOrder, cX2_isOrder, 4, some .boolean)
abbrev mX2_pointAt : fw_M := (yX2_pointAt, cX2_pointAt, 2, some .int)
abbrev mX2_lay : fw_M := (yX2_lay, cX2_lay, 4, none)
abbrev mX2_leastPlace : fw_M := (yX2_leastPlace, cX2_leastPlace, 7, some .int)
abbrev mX2_measureStretch : fw_M := (yX2_measureStretch, cX2_measureStretch, 5, none)
abbrev mX2_stretchPart : fw_M := (yX2_stretchPart, cX2_stretchPart, 4, some .int)
abbrev mX2_leastStretched : fw_M := (yX2_leastStretched, cX2_leastStretched, 1, some .int)
abbrev mX2_tryOrders : fw_M := (yX2_tryOrders, cX2_tryOrders, 5, none)
abbrev mX2_keepIfBetter : fw_M := (yX2_keepIfBetter, cX2_keepIfBetter, 2, none)
abbrev mX3_init : fw_M := (yX3_init, cX3_init, 2, none)
abbrev mX3_noneIsNegative : fw_M := (yX3_noneIsNegative, cX3_noneIsNegative, 2, some .boolean)
abbrev mX3_rank : fw_M := (yX3_rank, cX3_rank, 3, some .int)
abbrev mX3_determinant : fw_M := (yX3_determinant, cX3_determinant, 3, some .long)
abbrev mX3_expand : fw_M := (yX3_expand, cX3_expand, 9, some .long)
abbrev mX3_product : fw_M := (yX3_product, cX3_product, 3, some .long)
abbrev mX3_square : fw_M := (yX3_square, cX3_square, 5, some .long)
abbrev mX3_memberAt : fw_M := (yX3_memberAt, cX3_memberAt, 4, some .int)
abbrev mX4_init : fw_M := (yX4_init, cX4_init, 2, none)
abbrev mX4_takeAll : fw_M := (yX4_takeAll, cX4_takeAll, 3, none)
abbrev mX4_mostHalves : fw_M := (yX4_mostHalves, cX4_mostHalves, 6, some .int)
abbrev mX4_spareWay : fw_M := (yX4_spareWay, cX4_spareWay, 4, some .int)
abbrev mX5_init : fw_M := (yX5_init, cX5_init, 1, none)
abbrev mX5_hasLength : fw_M := (yX5_hasLength, cX5_hasLength, 1, some .boolean)
abbrev mX5_size : fw_M := (yX5_size, cX5_size, 5, some .int)
abbrev mX5_rowsWithin : fw_M := (yX5_rowsWithin, cX5_rowsWithin, 5, some .int)
abbrev mX5_smallestRow : fw_M := (yX5_smallestRow, cX5_smallestRow, 6, some .int)
abbrev mX6_init : fw_M := (yX6_init, cX6_init, 1, none)
abbrev mX6_reset : fw_M := (yX6_reset, cX6_reset, 4, none)
abbrev mX6_copyDoubled : fw_M := (yX6_copyDoubled, cX6_copyDoubled, 3, none)
abbrev mX6_hasPoint : fw_M := (yX6_hasPoint, cX6_hasPoint, 2, some .boolean)
abbrev mX6_hasPair : fw_M := (yX6_hasPair, cX6_hasPair, 3, some .boolean)
abbrev mX6_hasCut : fw_M := (yX6_hasCut, cX6_hasCut, 2, some .boolean)
abbrev mX6_between : fw_M := (yX6_between, cX6_between, 3, some .int)
abbrev mX6_put : fw_M := (yX6_put, cX6_put, 4, none)
abbrev mX6_bearsCut : fw_M := (yX6_bearsCut, cX6_bearsCut, 6, some .boolean)
abbrev mX6_putCut : fw_M := (yX6_putCut, cX6_putCut, 5, none)
abbrev mX7_init : fw_M := (yX7_init, cX7_init, 1, none)
abbrev mX7_table : fw_M := (yX7_table, cX7_table, 2, some .int)
abbrev mX7_set : fw_M := (yX7_set, cX7_set, 5, some .int)
abbrev mX7_at : fw_M := (yX7_at, cX7_at, 3, some .int)
abbrev mX7_law : fw_M := (yX7_law, cX7_law, 2, some .int)
abbrev mX7_breaks : fw_M := (yX7_breaks, cX7_breaks, 2, some .int)
abbrev mX7_flat : fw_M := (yX7_flat, cX7_flat, 1, some .int)
abbrev mX7_ways : fw_M := (yX7_ways, cX7_ways, 1, some .int)
abbrev mX7_bulk : fw_M := (yX7_bulk, cX7_bulk, 2, some .long)
abbrev mX7_add : fw_M := (yX7_add, cX7_add, 3, some .int)
abbrev mX7_peel : fw_M := (yX7_peel, cX7_peel, 2, some .int)
abbrev mX7_left : fw_M := (yX7_left, cX7_left, 3, some .int)
abbrev mX7_line : fw_M := (yX7_line, cX7_line, 4, some .int)
abbrev mX7_best : fw_M := (yX7_best, cX7_best, 3, some .int)
abbrev mX7_centres : fw_M := (yX7_centres, cX7_centres, 5, some .int)
abbrev mX7_number : fw_M := (yX7_number, cX7_number, 4, some .int)
abbrev mX7_signs : fw_M := (yX7_signs, cX7_signs, 3, some .int)
abbrev mX7_least : fw_M := (yX7_least, cX7_least, 4, some .int)
abbrev mX7_count : fw_M := (yX7_count, cX7_count, 1, some .int)
abbrev mX7_holds : fw_M := (yX7_holds, cX7_holds, 2, some .boolean)
abbrev mX7_parts : fw_M := (yX7_parts, cX7_parts, 3, some .boolean)
abbrev mX8_init : fw_M := (yX8_init, cX8_init, 1, none)
abbrev mX8_in : fw_M := (yX8_in, cX8_in, 3, some .boolean)
abbrev mX8_fills : fw_M := (yX8_fills, cX8_fills, 2, none)
abbrev mX8_dist : fw_M := (yX8_dist, cX8_dist, 3, some .int)
abbrev mX8_table : fw_M := (yX8_table, cX8_table, 2, some .int)
abbrev mX8_isPoint : fw_M := (yX8_isPoint, cX8_isPoint, 2, some .boolean)
abbrev mX8_set : fw_M := (yX8_set, cX8_set, 5, some .int)
abbrev mX8_at : fw_M := (yX8_at, cX8_at, 3, some .int)
abbrev mX8_isTwice : fw_M := (yX8_isTwice, cX8_isTwice, 4, some .boolean)
abbrev mX8_isBroken : fw_M := (yX8_isBroken, cX8_isBroken, 7, some .boolean)
abbrev mX8_isAbove : fw_M := (yX8_isAbove, cX8_isAbove, 9, some .boolean)
abbrev mX8_cases : fw_M := (yX8_cases, cX8_cases, 4, some .int)
abbrev mX8_law : fw_M := (yX8_law, cX8_law, 3, some .int)
abbrev mX8_breaks : fw_M := (yX8_breaks, cX8_breaks, 4, some .int)
abbrev mX8_worth : fw_M := (yX8_worth, cX8_worth, 13, some .long)
abbrev mX8_bits : fw_M := (yX8_bits, cX8_bits, 3, some .int)
abbrev mX8_flat : fw_M := (yX8_flat, cX8_flat, 2, some .int)
abbrev mX8_ways : fw_M := (yX8_ways, cX8_ways, 3, some .int)
abbrev mX8_bulk : fw_M := (yX8_bulk, cX8_bulk, 2, some .long)
abbrev mX8_isCut : fw_M := (yX8_isCut, cX8_isCut, 2, some .boolean)
abbrev mX8_parts : fw_M := (yX8_parts, cX8_parts, 3, some .boolean)
abbrev mX8_add : fw_M := (yX8_add, cX8_add, 5, some .int)
abbrev mX8_bears : fw_M := (yX8_bears, cX8_bears, 8, some .int)
abbrev mX8_peelAll : fw_M := (yX8_peelAll, cX8_peelAll, 5, none)
abbrev mX8_peel : fw_M := (yX8_peel, cX8_peel, 2, some .int)
abbrev mX8_left : fw_M := (yX8_left, cX8_left, 3, some .int)
abbrev mX8_isOrder : fw_M := (yX8_isOrder, cX8_isOrder, 4, some .boolean)
abbrev mX8_lays : fw_M := (yX8_lays, cX8_lays, 7, none)
abbrev mX8_common : fw_M := (yX8_common, cX8_common, 5, some .int)
abbrev mX8_stretch : fw_M := (yX8_stretch, cX8_stretch, 2, some .int)
abbrev mX8_line : fw_M := (yX8_line, cX8_line, 4, some .int)
abbrev mX8_isLower : fw_M := (yX8_isLower, cX8_isLower, 3, some .boolean)
abbrev mX8_best : fw_M := (yX8_best, cX8_best, 7, some .int)
abbrev mX8_worthOf : fw_M := (yX8_worthOf, cX8_worthOf, 8, some .int)
abbrev mX8_centres : fw_M := (yX8_centres, cX8_centres, 7, some .int)
abbrev mX8_number : fw_M := (yX8_number, cX8_number, 4, some .int)
abbrev mX8_sumOf : fw_M := (yX8_sumOf, cX8_sumOf, 5, some .int)
abbrev mX8_signs : fw_M := (yX8_signs, cX8_signs, 5, some .int)
abbrev mX8_least : fw_M := (yX8_least, cX8_least, 5, some .int)
abbrev mX8_count : fw_M := (yX8_count, cX8_count, 1, some .int)
abbrev mJ6_bitCount_0f7a4 : fw_M := (yJ6_bitCount_0f7a4, cJ6_bitCount_0f7a4, 1, some .int)
abbrev mJ9_abs_0f7a4 : fw_M := (yJ9_abs_0f7a4, cJ9_abs_0f7a4, 1, some .int)
abbrev mJ9_max_7cf53 : fw_M := (yJ9_max_7cf53, cJ9_max_7cf53, 2, some .int)
abbrev mJ9_min_7cf53 : fw_M := (yJ9_min_7cf53, cJ9_min_7cf53, 2, some .int)
end
section
set_option maxRecDepth 20000 in
theorem fX0_init_6 : fk_get mX0_init 6 0 0 true := ⟨9, RX0, TX0, 1, "", dX0_init_6, rfl, inX0, by decide, rfl, Or.inl (okm (i := 172) rfl rfl)⟩
set_option maxRecDepth 20000 in
theorem fX0_nearest_12 : fk_get mX0_nearest 12 0 0 false := ⟨9, RX0, TX0, 1, "", dX0_nearest_12, rfl, inX0, by decide, rfl, Or.inl (okm (i := 172) rfl rfl)⟩
set_option maxRecDepth 20000 in
theorem fX0_nearest_15 : fk_get mX0_nearest 15 6 1 false := ⟨15, RX6, TX6, 2, "FewWays", dX0_nearest_15, rfl, inX6, by decide, rfl, Or.inr (fw_nm (i := 66) rfl rfl)⟩
set_option maxRecDepth 20000 in
theorem kX0_nearest_24 : fk_S mX0_nearest mJ6_bitCount_0f7a4 24 1 := ⟨21, "", dX0_nearest_24, Or.inl (okm (i := 454) rfl rfl), (okm (i := 301) rfl rfl), (okm (i := 43) rfl rfl), (okm (i := 302) rfl rfl), ⟨by decide, by decide, by decide +kernel⟩, by decide⟩
set_option maxRecDepth 20000 in
theorem kX0_nearest_35 : fk_V mX0_nearest mX0_cost 35 0 2 := ⟨27, "", TX0, 1, dX0_nearest_35, rfl, Or.inl (okm (i := 455) rfl rfl), (okm (i := 456) rfl rfl), (okm (i := 457) rfl rfl), (okm (i := 39) rfl rfl), (okm (i := 458) rfl rfl), ⟨by decide, by decide, by decide +kernel⟩, by decide⟩
set_option maxRecDepth 20000 in
theorem fX0_cost_11 : fk_get mX0_cost 11 0 0 false := ⟨9, RX0, TX0, 1, "", dX0_cost_11, rfl, inX0, by decide, rfl, Or.inl (okm (i := 172) rfl rfl)⟩
set_option maxRecDepth 20000 in
theorem fX0_cost_14 : fk_get mX0_cost 14 6 1 false := ⟨15, RX6, TX6, 2, "FewWays", dX0_cost_14, rfl, inX6, by decide, rfl, Or.inr (fw_nm (i := 66) rfl rfl)⟩
set_option maxRecDepth 20000 in
theorem kX0_cost_24 : fk_V mX0_cost mX0_wayToNearest 24 0 2 := ⟨31, "", TX0, 1, dX0_cost_24, rfl, Or.inl (okm (i := 459) rfl rfl), (okm (i := 461) rfl rfl), (okm (i := 16) rfl rfl), (okm (i := 39) rfl rfl), (okm (i := 462) rfl rfl), ⟨by decide, by decide, by decide +kernel⟩, by decide⟩
set_option maxRecDepth 20000 in
theorem kX0_cost_38 : fk_M mX0_cost 38 Lib.Math.max.name Lib.Math.max.code 2 := ⟨35, dX0_cost_38, (okm (i := 466) rfl rfl), (okm (i := 270) rfl rfl), (okm (i := 42) rfl rfl), (okm (i := 271) rfl rfl)⟩
set_option maxRecDepth 20000 in
theorem fX0_wayToNearest_9 : fk_get mX0_wayToNearest 9 0 0 false := ⟨9, RX0, TX0, 1, "", dX0_wayToNearest_9, rfl, inX0, by decide, rfl, Or.inl (okm (i := 172) rfl rfl)⟩
set_option maxRecDepth 20000 in
theorem fX0_wayToNearest_12 : fk_get mX0_wayToNearest 12 6 1 false := ⟨15, RX6, TX6, 2, "FewWays", dX0_wayToNearest_12, rfl, inX6, by decide, rfl, Or.inr (fw_nm (i := 66) rfl rfl)⟩
set_option maxRecDepth 20000 in
theorem kX0_wayToNearest_21 : fk_S mX0_wayToNearest mX7_holds 21 2 := ⟨40, "FewWays", dX0_wayToNearest_21, Or.inr (fw_nm (i := 463) rfl rfl), (okm (i := 310) rfl rfl), (okm (i := 33) rfl rfl), (okm (i := 311) rfl rfl), ⟨by decide, by decide, by decide +kernel⟩, by decide⟩
set_option maxRecDepth 20000 in
theorem fX0_wayToNearest_29 : fk_get mX0_wayToNearest 29 0 0 false := ⟨9, RX0, TX0, 1, "", dX0_wayToNearest_29, rfl, inX0, by decide, rfl, Or.inl (okm (i := 172) rfl rfl)⟩
set_option maxRecDepth 20000 in
theorem kX0_wayToNearest_35 : fk_V mX0_wayToNearest mX6_between 35 6 2 := ⟨44, "", TX6, 2, dX0_wayToNearest_35, rfl, Or.inl (okm (i := 464) rfl rfl), (okm (i := 227) rfl rfl), (okm (i := 228) rfl rfl), (okm (i := 34) rfl rfl), (okm (i := 229) rfl rfl), ⟨by decide, by decide, by decide +kernel⟩, by decide⟩
set_option maxRecDepth 20000 in
theorem kX0_wayToNearest_38 : fk_M mX0_wayToNearest 38 Lib.Math.min.name Lib.Math.min.code 2 := ⟨47, dX0_wayToNearest_38, (okm (i := 465) rfl rfl), (okm (i := 387) rfl rfl), (okm (i := 42) rfl rfl), (okm (i := 388) rfl rfl)⟩
set_option maxRecDepth 20000 in
theorem fX1_init_9 : fk_get mX1_init 9 1 1 true := ⟨11, RX1, TX1, 4, "", dX1_init_9, rfl, inX1, by decide, rfl, Or.inl (okm (i := 83) rfl rfl)⟩
set_option maxRecDepth 20000 in
theorem fX1_init_14 : fk_get mX1_init 14 1 0 true := ⟨15, RX1, TX1, 4, "", dX1_init_14, rfl, inX1, by decide, rfl, Or.inl (okm (i := 82) rfl rfl)⟩
set_option maxRecDepth 20000 in
theorem fX1_judge_3 : fk_get mX1_judge 3 1 2 true := ⟨19, RX1, TX1, 4, "", dX1_judge_3, rfl, inX1, by decide, rfl, Or.inl (okm (i := 84) rfl rfl)⟩
set_option maxRecDepth 20000 in
theorem fX1_judge_8 : fk_get mX1_judge 8 1 3 true := ⟨23, RX1, TX1, 4, "", dX1_judge_8, rfl, inX1, by decide, rfl, Or.inl (okm (i := 87) rfl rfl)⟩
set_option maxRecDepth 20000 in
theorem kX1_judge_41 : fk_V mX1_judge mX1_judgeDetours 41 1 0 := ⟨26, "", TX1, 4, dX1_judge_41, rfl, Or.inl (okm (i := 249) rfl rfl), (okm (i := 251) rfl rfl), (okm (i := 0) rfl rfl), (okm (i := 35) rfl rfl), (okm (i := 252) rfl rfl), ⟨by decide, by decide, by decide +kernel⟩, by decide⟩
set_option maxRecDepth 20000 in
theorem kX1_judge_48 : fk_V mX1_judge mX1_judgeTrees 48 1 0 := ⟨29, "", TX1, 4, dX1_judge_48, rfl, Or.inl (okm (i := 258) rfl rfl), (okm (i := 260) rfl rfl), (okm (i := 2) rfl rfl), (okm (i := 35) rfl rfl), (okm (i := 261) rfl rfl), ⟨by decide, by decide, by decide +kernel⟩, by decide⟩
set_option maxRecDepth 20000 in
theorem kX1_judge_55 : fk_V mX1_judge mX1_judgeNests 55 1 0 := ⟨32, "", TX1, 4, dX1_judge_55, rfl, Or.inl (okm (i := 272) rfl rfl), (okm (i := 274) rfl rfl), (okm (i := 4) rfl rfl), (okm (i := 35) rfl rfl), (okm (i := 275) rfl rfl), ⟨by decide, by decide, by decide +kernel⟩, by decide⟩
set_option maxRecDepth 20000 in
theorem kX1_judge_66 : fk_V mX1_judge mX1_judgeWeights 66 1 4 := ⟨35, "", TX1, 4, dX1_judge_66, rfl, Or.inl (okm (i := 276) rfl rfl), (okm (i := 278) rfl rfl), (okm (i := 5) rfl rfl), (okm (i := 35) rfl rfl), (okm (i := 279) rfl rfl), ⟨by decide, by decide, by decide +kernel⟩, by decide⟩
set_option maxRecDepth 20000 in
theorem fX1_note_1 : fk_get mX1_note 1 1 3 false := ⟨23, RX1, TX1, 4, "", dX1_note_1, rfl, inX1, by decide, rfl, Or.inl (okm (i := 87) rfl rfl)⟩
set_option maxRecDepth 20000 in
theorem fX1_note_9 : fk_get mX1_note 9 1 2 true := ⟨19, RX1, TX1, 4, "", dX1_note_9, rfl, inX1, by decide, rfl, Or.inl (okm (i := 84) rfl rfl)⟩
set_option maxRecDepth 20000 in
theorem fX1_note_14 : fk_get mX1_note 14 1 3 false := ⟨23, RX1, TX1, 4, "", dX1_note_14, rfl, inX1, by decide, rfl, Or.inl (okm (i := 87) rfl rfl)⟩
set_option maxRecDepth 20000 in
theorem fX1_note_19 : fk_get mX1_note 19 1 3 true := ⟨23, RX1, TX1, 4, "", dX1_note_19, rfl, inX1, by decide, rfl, Or.inl (okm (i := 87) rfl rfl)⟩
set_option maxRecDepth 20000 in
theorem fX1_judgeDetours_1 : fk_get mX1_judgeDetours 1 1 0 false := ⟨15, RX1, TX1, 4, "", dX1_judgeDetours_1, rfl, inX1, by decide, rfl, Or.inl (okm (i := 82) rfl rfl)⟩
set_option maxRecDepth 20000 in
theorem fX1_judgeDetours_4 : fk_get mX1_judgeDetours 4 6 1 false := ⟨39, RX6, TX6, 2, "FewWays", dX1_judgeDetours_4, rfl, inX6, by decide, rfl, Or.inr (fw_nm (i := 68) rfl rfl)⟩
set_option maxRecDepth 20000 in
theorem fX1_judgeDetours_45 : fk_get mX1_judgeDetours 45 1 0 false := ⟨15, RX1, TX1, 4, "", dX1_judgeDetours_45, rfl, inX1, by decide, rfl, Or.inl (okm (i := 82) rfl rfl)⟩
set_option maxRecDepth 20000 in
theorem kX1_judgeDetours_51 : fk_V mX1_judgeDetours mX6_between 51 6 2 := ⟨44, "", TX6, 2, dX1_judgeDetours_51, rfl, Or.inl (okm (i := 253) rfl rfl), (okm (i := 227) rfl rfl), (okm (i := 228) rfl rfl), (okm (i := 34) rfl rfl), (okm (i := 229) rfl rfl), ⟨by decide, by decide, by decide +kernel⟩, by decide⟩
set_option maxRecDepth 20000 in
theorem fX1_judgeDetours_55 : fk_get mX1_judgeDetours 55 1 0 false := ⟨15, RX1, TX1, 4, "", dX1_judgeDetours_55, rfl, inX1, by decide, rfl, Or.inl (okm (i := 82) rfl rfl)⟩
set_option maxRecDepth 20000 in
theorem kX1_judgeDetours_60 : fk_V mX1_judgeDetours mX6_between 60 6 2 := ⟨44, "", TX6, 2, dX1_judgeDetours_60, rfl, Or.inl (okm (i := 253) rfl rfl), (okm (i := 227) rfl rfl), (okm (i := 228) rfl rfl), (okm (i := 34) rfl rfl), (okm (i := 229) rfl rfl), ⟨by decide, by decide, by decide +kernel⟩, by decide⟩
set_option maxRecDepth 20000 in
theorem fX1_judgeDetours_64 : fk_get mX1_judgeDetours 64 1 0 false := ⟨15, RX1, TX1, 4, "", dX1_judgeDetours_64, rfl, inX1, by decide, rfl, Or.inl (okm (i := 82) rfl rfl)⟩
set_option maxRecDepth 20000 in
theorem kX1_judgeDetours_70 : fk_V mX1_judgeDetours mX6_between 70 6 2 := ⟨44, "", TX6, 2, dX1_judgeDetours_70, rfl, Or.inl (okm (i := 253) rfl rfl), (okm (i := 227) rfl rfl), (okm (i := 228) rfl rfl), (okm (i := 34) rfl rfl), (okm (i := 229) rfl rfl), ⟨by decide, by decide, by decide +kernel⟩, by decide⟩
set_option maxRecDepth 20000 in
theorem kX1_judgeDetours_89 : fk_V mX1_judgeDetours mX1_note 89 1 1 := ⟨48, "", TX1, 4, dX1_judgeDetours_89, rfl, Or.inl (okm (i := 254) rfl rfl), (okm (i := 256) rfl rfl), (okm (i := 1) rfl rfl), (okm (i := 35) rfl rfl), (okm (i := 257) rfl rfl), ⟨by decide, by decide, by decide +kernel⟩, by decide⟩
set_option maxRecDepth 20000 in
theorem fX1_judgeTrees_1 : fk_get mX1_judgeTrees 1 1 0 false := ⟨15, RX1, TX1, 4, "", dX1_judgeTrees_1, rfl, inX1, by decide, rfl, Or.inl (okm (i := 82) rfl rfl)⟩
set_option maxRecDepth 20000 in
theorem fX1_judgeTrees_4 : fk_get mX1_judgeTrees 4 6 1 false := ⟨39, RX6, TX6, 2, "FewWays", dX1_judgeTrees_4, rfl, inX6, by decide, rfl, Or.inr (fw_nm (i := 68) rfl rfl)⟩
set_option maxRecDepth 20000 in
theorem kX1_judgeTrees_54 : fk_V mX1_judgeTrees mX1_sumsStickOut 54 1 4 := ⟨52, "", TX1, 4, dX1_judgeTrees_54, rfl, Or.inl (okm (i := 262) rfl rfl), (okm (i := 264) rfl rfl), (okm (i := 3) rfl rfl), (okm (i := 35) rfl rfl), (okm (i := 265) rfl rfl), ⟨by decide, by decide, by decide +kernel⟩, by decide⟩
set_option maxRecDepth 20000 in
theorem kX1_judgeTrees_78 : fk_V mX1_judgeTrees mX1_note 78 1 1 := ⟨48, "", TX1, 4, dX1_judgeTrees_78, rfl, Or.inl (okm (i := 254) rfl rfl), (okm (i := 256) rfl rfl), (okm (i := 1) rfl rfl), (okm (i := 35) rfl rfl), (okm (i := 257) rfl rfl), ⟨by decide, by decide, by decide +kernel⟩, by decide⟩
set_option maxRecDepth 20000 in
theorem fX1_sumsStickOut_1 : fk_get mX1_sumsStickOut 1 1 0 false := ⟨15, RX1, TX1, 4, "", dX1_sumsStickOut_1, rfl, inX1, by decide, rfl, Or.inl (okm (i := 82) rfl rfl)⟩
set_option maxRecDepth 20000 in
theorem kX1_sumsStickOut_6 : fk_V mX1_sumsStickOut mX6_between 6 6 2 := ⟨44, "", TX6, 2, dX1_sumsStickOut_6, rfl, Or.inl (okm (i := 253) rfl rfl), (okm (i := 227) rfl rfl), (okm (i := 228) rfl rfl), (okm (i := 34) rfl rfl), (okm (i := 229) rfl rfl), ⟨by decide, by decide, by decide +kernel⟩, by decide⟩
set_option maxRecDepth 20000 in
theorem fX1_sumsStickOut_10 : fk_get mX1_sumsStickOut 10 1 0 false := ⟨15, RX1, TX1, 4, "", dX1_sumsStickOut_10, rfl, inX1, by decide, rfl, Or.inl (okm (i := 82) rfl rfl)⟩
set_option maxRecDepth 20000 in
theorem kX1_sumsStickOut_16 : fk_V mX1_sumsStickOut mX6_between 16 6 2 := ⟨44, "", TX6, 2, dX1_sumsStickOut_16, rfl, Or.inl (okm (i := 253) rfl rfl), (okm (i := 227) rfl rfl), (okm (i := 228) rfl rfl), (okm (i := 34) rfl rfl), (okm (i := 229) rfl rfl), ⟨by decide, by decide, by decide +kernel⟩, by decide⟩
set_option maxRecDepth 20000 in
theorem fX1_sumsStickOut_21 : fk_get mX1_sumsStickOut 21 1 0 false := ⟨15, RX1, TX1, 4, "", dX1_sumsStickOut_21, rfl, inX1, by decide, rfl, Or.inl (okm (i := 82) rfl rfl)⟩
set_option maxRecDepth 20000 in
theorem kX1_sumsStickOut_26 : fk_V mX1_sumsStickOut mX6_between 26 6 2 := ⟨44, "", TX6, 2, dX1_sumsStickOut_26, rfl, Or.inl (okm (i := 253) rfl rfl), (okm (i := 227) rfl rfl), (okm (i := 228) rfl rfl), (okm (i := 34) rfl rfl), (okm (i := 229) rfl rfl), ⟨by decide, by decide, by decide +kernel⟩, by decide⟩
set_option maxRecDepth 20000 in
theorem fX1_sumsStickOut_30 : fk_get mX1_sumsStickOut 30 1 0 false := ⟨15, RX1, TX1, 4, "", dX1_sumsStickOut_30, rfl, inX1, by decide, rfl, Or.inl (okm (i := 82) rfl rfl)⟩
set_option maxRecDepth 20000 in
theorem kX1_sumsStickOut_36 : fk_V mX1_sumsStickOut mX6_between 36 6 2 := ⟨44, "", TX6, 2, dX1_sumsStickOut_36, rfl, Or.inl (okm (i := 253) rfl rfl), (okm (i := 227) rfl rfl), (okm (i := 228) rfl rfl), (okm (i := 34) rfl rfl), (okm (i := 229) rfl rfl), ⟨by decide, by decide, by decide +kernel⟩, by decide⟩
set_option maxRecDepth 20000 in
theorem fX1_sumsStickOut_41 : fk_get mX1_sumsStickOut 41 1 0 false := ⟨15, RX1, TX1, 4, "", dX1_sumsStickOut_41, rfl, inX1, by decide, rfl, Or.inl (okm (i := 82) rfl rfl)⟩
set_option maxRecDepth 20000 in
theorem kX1_sumsStickOut_47 : fk_V mX1_sumsStickOut mX6_between 47 6 2 := ⟨44, "", TX6, 2, dX1_sumsStickOut_47, rfl, Or.inl (okm (i := 253) rfl rfl), (okm (i := 227) rfl rfl), (okm (i := 228) rfl rfl), (okm (i := 34) rfl rfl), (okm (i := 229) rfl rfl), ⟨by decide, by decide, by decide +kernel⟩, by decide⟩
set_option maxRecDepth 20000 in
theorem fX1_sumsStickOut_51 : fk_get mX1_sumsStickOut 51 1 0 false := ⟨15, RX1, TX1, 4, "", dX1_sumsStickOut_51, rfl, inX1, by decide, rfl, Or.inl (okm (i := 82) rfl rfl)⟩
set_option maxRecDepth 20000 in
theorem kX1_sumsStickOut_56 : fk_V mX1_sumsStickOut mX6_between 56 6 2 := ⟨44, "", TX6, 2, dX1_sumsStickOut_56, rfl, Or.inl (okm (i := 253) rfl rfl), (okm (i := 227) rfl rfl), (okm (i := 228) rfl rfl), (okm (i := 34) rfl rfl), (okm (i := 229) rfl rfl), ⟨by decide, by decide, by decide +kernel⟩, by decide⟩
set_option maxRecDepth 20000 in
theorem kX1_sumsStickOut_60 : fk_S mX1_sumsStickOut mX1_greatestIsAlone 60 3 := ⟨56, "", dX1_sumsStickOut_60, Or.inl (okm (i := 266) rfl rfl), (okm (i := 267) rfl rfl), (okm (i := 35) rfl rfl), (okm (i := 268) rfl rfl), ⟨by decide, by decide, by decide +kernel⟩, by decide⟩
set_option maxRecDepth 20000 in
theorem fX1_judgeNests_1 : fk_get mX1_judgeNests 1 1 0 false := ⟨15, RX1, TX1, 4, "", dX1_judgeNests_1, rfl, inX1, by decide, rfl, Or.inl (okm (i := 82) rfl rfl)⟩
set_option maxRecDepth 20000 in
theorem fX1_judgeNests_4 : fk_get mX1_judgeNests 4 6 1 false := ⟨39, RX6, TX6, 2, "FewWays", dX1_judgeNests_4, rfl, inX6, by decide, rfl, Or.inr (fw_nm (i := 68) rfl rfl)⟩
set_option maxRecDepth 20000 in
theorem fX1_judgeNests_36 : fk_get mX1_judgeNests 36 1 0 false := ⟨15, RX1, TX1, 4, "", dX1_judgeNests_36, rfl, inX1, by decide, rfl, Or.inl (okm (i := 82) rfl rfl)⟩
set_option maxRecDepth 20000 in
theorem kX1_judgeNests_41 : fk_V mX1_judgeNests mX6_between 41 6 2 := ⟨44, "", TX6, 2, dX1_judgeNests_41, rfl, Or.inl (okm (i := 253) rfl rfl), (okm (i := 227) rfl rfl), (okm (i := 228) rfl rfl), (okm (i := 34) rfl rfl), (okm (i := 229) rfl rfl), ⟨by decide, by decide, by decide +kernel⟩, by decide⟩
set_option maxRecDepth 20000 in
theorem fX1_judgeNests_45 : fk_get mX1_judgeNests 45 1 0 false := ⟨15, RX1, TX1, 4, "", dX1_judgeNests_45, rfl, inX1, by decide, rfl, Or.inl (okm (i := 82) rfl rfl)⟩
set_option maxRecDepth 20000 in
theorem kX1_judgeNests_51 : fk_V mX1_judgeNests mX6_between 51 6 2 := ⟨44, "", TX6, 2, dX1_judgeNests_51, rfl, Or.inl (okm (i := 253) rfl rfl), (okm (i := 227) rfl rfl), (okm (i := 228) rfl rfl), (okm (i := 34) rfl rfl), (okm (i := 229) rfl rfl), ⟨by decide, by decide, by decide +kernel⟩, by decide⟩
set_option maxRecDepth 20000 in
theorem fX1_judgeNests_55 : fk_get mX1_judgeNests 55 1 0 false := ⟨15, RX1, TX1, 4, "", dX1_judgeNests_55, rfl, inX1, by decide, rfl, Or.inl (okm (i := 82) rfl rfl)⟩
set_option maxRecDepth 20000 in
theorem kX1_judgeNests_61 : fk_V mX1_judgeNests mX6_between 61 6 2 := ⟨44, "", TX6, 2, dX1_judgeNests_61, rfl, Or.inl (okm (i := 253) rfl rfl), (okm (i := 227) rfl rfl), (okm (i := 228) rfl rfl), (okm (i := 34) rfl rfl), (okm (i := 229) rfl rfl), ⟨by decide, by decide, by decide +kernel⟩, by decide⟩
set_option maxRecDepth 20000 in
theorem kX1_judgeNests_64 : fk_S mX1_judgeNests mX1_greatestIsAlone 64 3 := ⟨56, "", dX1_judgeNests_64, Or.inl (okm (i := 266) rfl rfl), (okm (i := 267) rfl rfl), (okm (i := 35) rfl rfl), (okm (i := 268) rfl rfl), ⟨by decide, by decide, by decide +kernel⟩, by decide⟩
set_option maxRecDepth 20000 in
theorem kX1_judgeNests_82 : fk_V mX1_judgeNests mX1_note 82 1 1 := ⟨48, "", TX1, 4, dX1_judgeNests_82, rfl, Or.inl (okm (i := 254) rfl rfl), (okm (i := 256) rfl rfl), (okm (i := 1) rfl rfl), (okm (i := 35) rfl rfl), (okm (i := 257) rfl rfl), ⟨by decide, by decide, by decide +kernel⟩, by decide⟩
set_option maxRecDepth 20000 in
theorem kX1_greatestIsAlone_3 : fk_M mX1_greatestIsAlone 3 Lib.Math.max.name Lib.Math.max.code 2 := ⟨60, dX1_greatestIsAlone_3, (okm (i := 269) rfl rfl), (okm (i := 270) rfl rfl), (okm (i := 42) rfl rfl), (okm (i := 271) rfl rfl)⟩
set_option maxRecDepth 20000 in
theorem kX1_greatestIsAlone_12 : fk_M mX1_greatestIsAlone 12 Lib.Math.max.name Lib.Math.max.code 2 := ⟨60, dX1_greatestIsAlone_12, (okm (i := 269) rfl rfl), (okm (i := 270) rfl rfl), (okm (i := 42) rfl rfl), (okm (i := 271) rfl rfl)⟩
set_option maxRecDepth 20000 in
theorem kX1_greatestIsAlone_21 : fk_M mX1_greatestIsAlone 21 Lib.Math.max.name Lib.Math.max.code 2 := ⟨60, dX1_greatestIsAlone_21, (okm (i := 269) rfl rfl), (okm (i := 270) rfl rfl), (okm (i := 42) rfl rfl), (okm (i := 271) rfl rfl)⟩
set_option maxRecDepth 20000 in
theorem kX1_judgeWeights_2 : fk_V mX1_judgeWeights mX1_pullOn 2 1 1 := ⟨65, "", TX1, 4, dX1_judgeWeights_2, rfl, Or.inl (okm (i := 280) rfl rfl), (okm (i := 282) rfl rfl), (okm (i := 6) rfl rfl), (okm (i := 35) rfl rfl), (okm (i := 283) rfl rfl), ⟨by decide, by decide, by decide +kernel⟩, by decide⟩
set_option maxRecDepth 20000 in
theorem fX1_judgeWeights_9 : fk_get mX1_judgeWeights 9 1 0 false := ⟨15, RX1, TX1, 4, "", dX1_judgeWeights_9, rfl, inX1, by decide, rfl, Or.inl (okm (i := 82) rfl rfl)⟩
set_option maxRecDepth 20000 in
theorem fX1_judgeWeights_12 : fk_get mX1_judgeWeights 12 6 1 false := ⟨39, RX6, TX6, 2, "FewWays", dX1_judgeWeights_12, rfl, inX6, by decide, rfl, Or.inr (fw_nm (i := 68) rfl rfl)⟩
set_option maxRecDepth 20000 in
theorem kX1_judgeWeights_58 : fk_V mX1_judgeWeights mX1_note 58 1 1 := ⟨48, "", TX1, 4, dX1_judgeWeights_58, rfl, Or.inl (okm (i := 254) rfl rfl), (okm (i := 256) rfl rfl), (okm (i := 1) rfl rfl), (okm (i := 35) rfl rfl), (okm (i := 257) rfl rfl), ⟨by decide, by decide, by decide +kernel⟩, by decide⟩
set_option maxRecDepth 20000 in
theorem fX1_judgeWeights_73 : fk_get mX1_judgeWeights 73 1 1 false := ⟨11, RX1, TX1, 4, "", dX1_judgeWeights_73, rfl, inX1, by decide, rfl, Or.inl (okm (i := 83) rfl rfl)⟩
set_option maxRecDepth 20000 in
theorem kX1_judgeWeights_108 : fk_V mX1_judgeWeights mX1_judgeWeights 108 1 4 := ⟨35, "", TX1, 4, dX1_judgeWeights_108, rfl, Or.inl (okm (i := 276) rfl rfl), (okm (i := 278) rfl rfl), (okm (i := 5) rfl rfl), (okm (i := 35) rfl rfl), (okm (i := 279) rfl rfl), ⟨by decide, by decide, by decide +kernel⟩, by decide⟩
set_option maxRecDepth 20000 in
theorem fX1_pullOn_11 : fk_get mX1_pullOn 11 1 1 false := ⟨11, RX1, TX1, 4, "", dX1_pullOn_11, rfl, inX1, by decide, rfl, Or.inl (okm (i := 83) rfl rfl)⟩
set_option maxRecDepth 20000 in
theorem fX1_pullOn_17 : fk_get mX1_pullOn 17 1 0 false := ⟨15, RX1, TX1, 4, "", dX1_pullOn_17, rfl, inX1, by decide, rfl, Or.inl (okm (i := 82) rfl rfl)⟩
set_option maxRecDepth 20000 in
theorem kX1_pullOn_22 : fk_V mX1_pullOn mX6_between 22 6 2 := ⟨44, "", TX6, 2, dX1_pullOn_22, rfl, Or.inl (okm (i := 253) rfl rfl), (okm (i := 227) rfl rfl), (okm (i := 228) rfl rfl), (okm (i := 34) rfl rfl), (okm (i := 229) rfl rfl), ⟨by decide, by decide, by decide +kernel⟩, by decide⟩
set_option maxRecDepth 20000 in
theorem fX2_init_9 : fk_get mX2_init 9 2 1 true := ⟨9, RX2, TX2, 7, "", dX2_init_9, rfl, inX2, by decide, rfl, Or.inl (okm (i := 144) rfl rfl)⟩
set_option maxRecDepth 20000 in
theorem fX2_init_14 : fk_get mX2_init 14 2 0 true := ⟨15, RX2, TX2, 7, "", dX2_init_14, rfl, inX2, by decide, rfl, Or.inl (okm (i := 143) rfl rfl)⟩
set_option maxRecDepth 20000 in
theorem fX2_isOrder_8 : fk_get mX2_isOrder 8 2 0 false := ⟨15, RX2, TX2, 7, "", dX2_isOrder_8, rfl, inX2, by decide, rfl, Or.inl (okm (i := 143) rfl rfl)⟩
set_option maxRecDepth 20000 in
theorem fX2_isOrder_11 : fk_get mX2_isOrder 11 6 1 false := ⟨19, RX6, TX6, 2, "FewWays", dX2_isOrder_11, rfl, inX6, by decide, rfl, Or.inr (fw_nm (i := 65) rfl rfl)⟩
set_option maxRecDepth 20000 in
theorem fX2_isOrder_27 : fk_get mX2_isOrder 27 2 0 false := ⟨15, RX2, TX2, 7, "", dX2_isOrder_27, rfl, inX2, by decide, rfl, Or.inl (okm (i := 143) rfl rfl)⟩
set_option maxRecDepth 20000 in
theorem fX2_isOrder_30 : fk_get mX2_isOrder 30 6 1 false := ⟨19, RX6, TX6, 2, "FewWays", dX2_isOrder_30, rfl, inX6, by decide, rfl, Or.inr (fw_nm (i := 65) rfl rfl)⟩
set_option maxRecDepth 20000 in
theorem kX2_isOrder_40 : fk_S mX2_isOrder mX2_pointAt 40 2 := ⟨25, "", dX2_isOrder_40, Or.inl (okm (i := 402) rfl rfl), (okm (i := 403) rfl rfl), (okm (i := 38) rfl rfl), (okm (i := 404) rfl rfl), ⟨by decide, by decide, by decide +kernel⟩, by decide⟩
set_option maxRecDepth 20000 in
theorem fX2_isOrder_55 : fk_get mX2_isOrder 55 2 0 false := ⟨15, RX2, TX2, 7, "", dX2_isOrder_55, rfl, inX2, by decide, rfl, Or.inl (okm (i := 143) rfl rfl)⟩
set_option maxRecDepth 20000 in
theorem fX2_isOrder_58 : fk_get mX2_isOrder 58 6 1 false := ⟨19, RX6, TX6, 2, "FewWays", dX2_isOrder_58, rfl, inX6, by decide, rfl, Or.inr (fw_nm (i := 65) rfl rfl)⟩
set_option maxRecDepth 20000 in
theorem fX2_lay_4 : fk_get mX2_lay 4 2 0 false := ⟨15, RX2, TX2, 7, "", dX2_lay_4, rfl, inX2, by decide, rfl, Or.inl (okm (i := 143) rfl rfl)⟩
set_option maxRecDepth 20000 in
theorem fX2_lay_7 : fk_get mX2_lay 7 6 1 false := ⟨19, RX6, TX6, 2, "FewWays", dX2_lay_7, rfl, inX6, by decide, rfl, Or.inr (fw_nm (i := 65) rfl rfl)⟩
set_option maxRecDepth 20000 in
theorem kX2_lay_15 : fk_S mX2_lay mX2_pointAt 15 2 := ⟨25, "", dX2_lay_15, Or.inl (okm (i := 402) rfl rfl), (okm (i := 403) rfl rfl), (okm (i := 38) rfl rfl), (okm (i := 404) rfl rfl), ⟨by decide, by decide, by decide +kernel⟩, by decide⟩
set_option maxRecDepth 20000 in
theorem fX2_lay_20 : fk_get mX2_lay 20 2 0 false := ⟨15, RX2, TX2, 7, "", dX2_lay_20, rfl, inX2, by decide, rfl, Or.inl (okm (i := 143) rfl rfl)⟩
set_option maxRecDepth 20000 in
theorem kX2_lay_24 : fk_V mX2_lay mX6_hasPoint 24 6 1 := ⟨29, "", TX6, 2, dX2_lay_24, rfl, Or.inl (okm (i := 410) rfl rfl), (okm (i := 223) rfl rfl), (okm (i := 224) rfl rfl), (okm (i := 34) rfl rfl), (okm (i := 225) rfl rfl), ⟨by decide, by decide, by decide +kernel⟩, by decide⟩
set_option maxRecDepth 20000 in
theorem fX2_lay_31 : fk_get mX2_lay 31 2 1 false := ⟨9, RX2, TX2, 7, "", dX2_lay_31, rfl, inX2, by decide, rfl, Or.inl (okm (i := 144) rfl rfl)⟩
set_option maxRecDepth 20000 in
theorem kX2_lay_39 : fk_V mX2_lay mX2_leastPlace 39 2 3 := ⟨33, "", TX2, 7, dX2_lay_39, rfl, Or.inl (okm (i := 411) rfl rfl), (okm (i := 413) rfl rfl), (okm (i := 12) rfl rfl), (okm (i := 38) rfl rfl), (okm (i := 414) rfl rfl), ⟨by decide, by decide, by decide +kernel⟩, by decide⟩
set_option maxRecDepth 20000 in
theorem kX2_lay_50 : fk_V mX2_lay mX2_measureStretch 50 2 0 := ⟨37, "", TX2, 7, dX2_lay_50, rfl, Or.inl (okm (i := 417) rfl rfl), (okm (i := 419) rfl rfl), (okm (i := 13) rfl rfl), (okm (i := 38) rfl rfl), (okm (i := 420) rfl rfl), ⟨by decide, by decide, by decide +kernel⟩, by decide⟩
set_option maxRecDepth 20000 in
theorem kX2_leastPlace_15 : fk_S mX2_leastPlace mX2_pointAt 15 2 := ⟨25, "", dX2_leastPlace_15, Or.inl (okm (i := 402) rfl rfl), (okm (i := 403) rfl rfl), (okm (i := 38) rfl rfl), (okm (i := 404) rfl rfl), ⟨by decide, by decide, by decide +kernel⟩, by decide⟩
set_option maxRecDepth 20000 in
theorem fX2_leastPlace_21 : fk_get mX2_leastPlace 21 2 0 false := ⟨15, RX2, TX2, 7, "", dX2_leastPlace_21, rfl, inX2, by decide, rfl, Or.inl (okm (i := 143) rfl rfl)⟩
set_option maxRecDepth 20000 in
theorem kX2_leastPlace_26 : fk_V mX2_leastPlace mX6_hasPoint 26 6 1 := ⟨29, "", TX6, 2, dX2_leastPlace_26, rfl, Or.inl (okm (i := 410) rfl rfl), (okm (i := 223) rfl rfl), (okm (i := 224) rfl rfl), (okm (i := 34) rfl rfl), (okm (i := 225) rfl rfl), ⟨by decide, by decide, by decide +kernel⟩, by decide⟩
set_option maxRecDepth 20000 in
theorem fX2_leastPlace_35 : fk_get mX2_leastPlace 35 2 1 false := ⟨9, RX2, TX2, 7, "", dX2_leastPlace_35, rfl, inX2, by decide, rfl, Or.inl (okm (i := 144) rfl rfl)⟩
set_option maxRecDepth 20000 in
theorem fX2_leastPlace_42 : fk_get mX2_leastPlace 42 2 0 false := ⟨15, RX2, TX2, 7, "", dX2_leastPlace_42, rfl, inX2, by decide, rfl, Or.inl (okm (i := 143) rfl rfl)⟩
set_option maxRecDepth 20000 in
theorem kX2_leastPlace_48 : fk_V mX2_leastPlace mX6_between 48 6 2 := ⟨40, "", TX6, 2, dX2_leastPlace_48, rfl, Or.inl (okm (i := 415) rfl rfl), (okm (i := 227) rfl rfl), (okm (i := 228) rfl rfl), (okm (i := 34) rfl rfl), (okm (i := 229) rfl rfl), ⟨by decide, by decide, by decide +kernel⟩, by decide⟩
set_option maxRecDepth 20000 in
theorem kX2_leastPlace_52 : fk_M mX2_leastPlace 52 Lib.Math.max.name Lib.Math.max.code 2 := ⟨43, dX2_leastPlace_52, (okm (i := 416) rfl rfl), (okm (i := 270) rfl rfl), (okm (i := 42) rfl rfl), (okm (i := 271) rfl rfl)⟩
set_option maxRecDepth 20000 in
theorem fX2_measureStretch_2 : fk_get mX2_measureStretch 2 2 2 true := ⟨48, RX2, TX2, 7, "", dX2_measureStretch_2, rfl, inX2, by decide, rfl, Or.inl (okm (i := 146) rfl rfl)⟩
set_option maxRecDepth 20000 in
theorem fX2_measureStretch_7 : fk_get mX2_measureStretch 7 2 3 true := ⟨51, RX2, TX2, 7, "", dX2_measureStretch_7, rfl, inX2, by decide, rfl, Or.inl (okm (i := 147) rfl rfl)⟩
set_option maxRecDepth 20000 in
theorem fX2_measureStretch_14 : fk_get mX2_measureStretch 14 2 0 false := ⟨15, RX2, TX2, 7, "", dX2_measureStretch_14, rfl, inX2, by decide, rfl, Or.inl (okm (i := 143) rfl rfl)⟩
set_option maxRecDepth 20000 in
theorem fX2_measureStretch_17 : fk_get mX2_measureStretch 17 6 1 false := ⟨19, RX6, TX6, 2, "FewWays", dX2_measureStretch_17, rfl, inX6, by decide, rfl, Or.inr (fw_nm (i := 65) rfl rfl)⟩
set_option maxRecDepth 20000 in
theorem fX2_measureStretch_29 : fk_get mX2_measureStretch 29 2 0 false := ⟨15, RX2, TX2, 7, "", dX2_measureStretch_29, rfl, inX2, by decide, rfl, Or.inl (okm (i := 143) rfl rfl)⟩
set_option maxRecDepth 20000 in
theorem fX2_measureStretch_32 : fk_get mX2_measureStretch 32 6 1 false := ⟨19, RX6, TX6, 2, "FewWays", dX2_measureStretch_32, rfl, inX6, by decide, rfl, Or.inr (fw_nm (i := 65) rfl rfl)⟩
set_option maxRecDepth 20000 in
theorem fX2_measureStretch_39 : fk_get mX2_measureStretch 39 2 0 false := ⟨15, RX2, TX2, 7, "", dX2_measureStretch_39, rfl, inX2, by decide, rfl, Or.inl (okm (i := 143) rfl rfl)⟩
set_option maxRecDepth 20000 in
theorem kX2_measureStretch_44 : fk_V mX2_measureStretch mX6_between 44 6 2 := ⟨40, "", TX6, 2, dX2_measureStretch_44, rfl, Or.inl (okm (i := 415) rfl rfl), (okm (i := 227) rfl rfl), (okm (i := 228) rfl rfl), (okm (i := 34) rfl rfl), (okm (i := 229) rfl rfl), ⟨by decide, by decide, by decide +kernel⟩, by decide⟩
set_option maxRecDepth 20000 in
theorem fX2_measureStretch_49 : fk_get mX2_measureStretch 49 2 1 false := ⟨9, RX2, TX2, 7, "", dX2_measureStretch_49, rfl, inX2, by decide, rfl, Or.inl (okm (i := 144) rfl rfl)⟩
set_option maxRecDepth 20000 in
theorem fX2_measureStretch_55 : fk_get mX2_measureStretch 55 2 1 false := ⟨9, RX2, TX2, 7, "", dX2_measureStretch_55, rfl, inX2, by decide, rfl, Or.inl (okm (i := 144) rfl rfl)⟩
set_option maxRecDepth 20000 in
theorem kX2_measureStretch_61 : fk_M mX2_measureStretch 61 Lib.Math.abs.name Lib.Math.abs.code 1 := ⟨54, dX2_measureStretch_61, (okm (i := 421) rfl rfl), (okm (i := 422) rfl rfl), (okm (i := 42) rfl rfl), (okm (i := 423) rfl rfl)⟩
set_option maxRecDepth 20000 in
theorem fX2_measureStretch_73 : fk_get mX2_measureStretch 73 2 3 false := ⟨51, RX2, TX2, 7, "", dX2_measureStretch_73, rfl, inX2, by decide, rfl, Or.inl (okm (i := 147) rfl rfl)⟩
set_option maxRecDepth 20000 in
theorem fX2_measureStretch_78 : fk_get mX2_measureStretch 78 2 2 false := ⟨48, RX2, TX2, 7, "", dX2_measureStretch_78, rfl, inX2, by decide, rfl, Or.inl (okm (i := 146) rfl rfl)⟩
set_option maxRecDepth 20000 in
theorem fX2_measureStretch_89 : fk_get mX2_measureStretch 89 2 2 true := ⟨48, RX2, TX2, 7, "", dX2_measureStretch_89, rfl, inX2, by decide, rfl, Or.inl (okm (i := 146) rfl rfl)⟩
set_option maxRecDepth 20000 in
theorem fX2_measureStretch_94 : fk_get mX2_measureStretch 94 2 3 true := ⟨51, RX2, TX2, 7, "", dX2_measureStretch_94, rfl, inX2, by decide, rfl, Or.inl (okm (i := 147) rfl rfl)⟩
set_option maxRecDepth 20000 in
theorem fX2_stretchPart_6 : fk_get mX2_stretchPart 6 2 2 false := ⟨48, RX2, TX2, 7, "", dX2_stretchPart_6, rfl, inX2, by decide, rfl, Or.inl (okm (i := 146) rfl rfl)⟩
set_option maxRecDepth 20000 in
theorem fX2_stretchPart_13 : fk_get mX2_stretchPart 13 2 3 false := ⟨51, RX2, TX2, 7, "", dX2_stretchPart_13, rfl, inX2, by decide, rfl, Or.inl (okm (i := 147) rfl rfl)⟩
set_option maxRecDepth 20000 in
theorem fX2_stretchPart_18 : fk_get mX2_stretchPart 18 2 3 false := ⟨51, RX2, TX2, 7, "", dX2_stretchPart_18, rfl, inX2, by decide, rfl, Or.inl (okm (i := 147) rfl rfl)⟩
set_option maxRecDepth 20000 in
theorem fX2_stretchPart_28 : fk_get mX2_stretchPart 28 2 2 false := ⟨48, RX2, TX2, 7, "", dX2_stretchPart_28, rfl, inX2, by decide, rfl, Or.inl (okm (i := 146) rfl rfl)⟩
set_option maxRecDepth 20000 in
theorem fX2_stretchPart_37 : fk_get mX2_stretchPart 37 2 3 false := ⟨51, RX2, TX2, 7, "", dX2_stretchPart_37, rfl, inX2, by decide, rfl, Or.inl (okm (i := 147) rfl rfl)⟩
set_option maxRecDepth 20000 in
theorem fX2_leastStretched_3 : fk_get mX2_leastStretched 3 2 4 true := ⟨58, RX2, TX2, 7, "", dX2_leastStretched_3, rfl, inX2, by decide, rfl, Or.inl (okm (i := 148) rfl rfl)⟩
set_option maxRecDepth 20000 in
theorem kX2_leastStretched_10 : fk_V mX2_leastStretched mX2_tryOrders 10 2 3 := ⟨61, "", TX2, 7, dX2_leastStretched_10, rfl, Or.inl (okm (i := 436) rfl rfl), (okm (i := 438) rfl rfl), (okm (i := 14) rfl rfl), (okm (i := 38) rfl rfl), (okm (i := 439) rfl rfl), ⟨by decide, by decide, by decide +kernel⟩, by decide⟩
set_option maxRecDepth 20000 in
theorem fX2_leastStretched_14 : fk_get mX2_leastStretched 14 2 4 false := ⟨58, RX2, TX2, 7, "", dX2_leastStretched_14, rfl, inX2, by decide, rfl, Or.inl (okm (i := 148) rfl rfl)⟩
set_option maxRecDepth 20000 in
theorem fX2_tryOrders_2 : fk_get mX2_tryOrders 2 2 0 false := ⟨15, RX2, TX2, 7, "", dX2_tryOrders_2, rfl, inX2, by decide, rfl, Or.inl (okm (i := 143) rfl rfl)⟩
set_option maxRecDepth 20000 in
theorem fX2_tryOrders_5 : fk_get mX2_tryOrders 5 6 1 false := ⟨19, RX6, TX6, 2, "FewWays", dX2_tryOrders_5, rfl, inX6, by decide, rfl, Or.inr (fw_nm (i := 65) rfl rfl)⟩
set_option maxRecDepth 20000 in
theorem kX2_tryOrders_13 : fk_V mX2_tryOrders mX2_lay 13 2 1 := ⟨65, "", TX2, 7, dX2_tryOrders_13, rfl, Or.inl (okm (i := 440) rfl rfl), (okm (i := 407) rfl rfl), (okm (i := 408) rfl rfl), (okm (i := 38) rfl rfl), (okm (i := 409) rfl rfl), ⟨by decide, by decide, by decide +kernel⟩, by decide⟩
set_option maxRecDepth 20000 in
theorem kX2_tryOrders_18 : fk_V mX2_tryOrders mX2_keepIfBetter 18 2 1 := ⟨69, "", TX2, 7, dX2_tryOrders_18, rfl, Or.inl (okm (i := 441) rfl rfl), (okm (i := 443) rfl rfl), (okm (i := 15) rfl rfl), (okm (i := 38) rfl rfl), (okm (i := 444) rfl rfl), ⟨by decide, by decide, by decide +kernel⟩, by decide⟩
set_option maxRecDepth 20000 in
theorem fX2_tryOrders_28 : fk_get mX2_tryOrders 28 2 0 false := ⟨15, RX2, TX2, 7, "", dX2_tryOrders_28, rfl, inX2, by decide, rfl, Or.inl (okm (i := 143) rfl rfl)⟩
set_option maxRecDepth 20000 in
theorem fX2_tryOrders_31 : fk_get mX2_tryOrders 31 6 1 false := ⟨19, RX6, TX6, 2, "FewWays", dX2_tryOrders_31, rfl, inX6, by decide, rfl, Or.inr (fw_nm (i := 65) rfl rfl)⟩
set_option maxRecDepth 20000 in
theorem kX2_tryOrders_40 : fk_S mX2_tryOrders mX7_holds 40 2 := ⟨72, "FewWays", dX2_tryOrders_40, Or.inr (fw_nm (i := 445) rfl rfl), (okm (i := 310) rfl rfl), (okm (i := 33) rfl rfl), (okm (i := 311) rfl rfl), ⟨by decide, by decide, by decide +kernel⟩, by decide⟩
set_option maxRecDepth 20000 in
theorem kX2_tryOrders_64 : fk_V mX2_tryOrders mX2_tryOrders 64 2 3 := ⟨61, "", TX2, 7, dX2_tryOrders_64, rfl, Or.inl (okm (i := 436) rfl rfl), (okm (i := 438) rfl rfl), (okm (i := 14) rfl rfl), (okm (i := 38) rfl rfl), (okm (i := 439) rfl rfl), ⟨by decide, by decide, by decide +kernel⟩, by decide⟩
set_option maxRecDepth 20000 in
theorem fX2_keepIfBetter_1 : fk_get mX2_keepIfBetter 1 2 4 false := ⟨58, RX2, TX2, 7, "", dX2_keepIfBetter_1, rfl, inX2, by decide, rfl, Or.inl (okm (i := 148) rfl rfl)⟩
set_option maxRecDepth 20000 in
theorem fX2_keepIfBetter_10 : fk_get mX2_keepIfBetter 10 2 2 false := ⟨48, RX2, TX2, 7, "", dX2_keepIfBetter_10, rfl, inX2, by decide, rfl, Or.inl (okm (i := 146) rfl rfl)⟩
set_option maxRecDepth 20000 in
theorem fX2_keepIfBetter_14 : fk_get mX2_keepIfBetter 14 2 6 false := ⟨76, RX2, TX2, 7, "", dX2_keepIfBetter_14, rfl, inX2, by decide, rfl, Or.inl (okm (i := 150) rfl rfl)⟩
set_option maxRecDepth 20000 in
theorem fX2_keepIfBetter_19 : fk_get mX2_keepIfBetter 19 2 5 false := ⟨79, RX2, TX2, 7, "", dX2_keepIfBetter_19, rfl, inX2, by decide, rfl, Or.inl (okm (i := 149) rfl rfl)⟩
set_option maxRecDepth 20000 in
theorem fX2_keepIfBetter_23 : fk_get mX2_keepIfBetter 23 2 3 false := ⟨51, RX2, TX2, 7, "", dX2_keepIfBetter_23, rfl, inX2, by decide, rfl, Or.inl (okm (i := 147) rfl rfl)⟩
set_option maxRecDepth 20000 in
theorem fX2_keepIfBetter_32 : fk_get mX2_keepIfBetter 32 2 4 true := ⟨58, RX2, TX2, 7, "", dX2_keepIfBetter_32, rfl, inX2, by decide, rfl, Or.inl (okm (i := 148) rfl rfl)⟩
set_option maxRecDepth 20000 in
theorem fX2_keepIfBetter_37 : fk_get mX2_keepIfBetter 37 2 2 false := ⟨48, RX2, TX2, 7, "", dX2_keepIfBetter_37, rfl, inX2, by decide, rfl, Or.inl (okm (i := 146) rfl rfl)⟩
set_option maxRecDepth 20000 in
theorem fX2_keepIfBetter_40 : fk_get mX2_keepIfBetter 40 2 5 true := ⟨79, RX2, TX2, 7, "", dX2_keepIfBetter_40, rfl, inX2, by decide, rfl, Or.inl (okm (i := 149) rfl rfl)⟩
set_option maxRecDepth 20000 in
theorem fX2_keepIfBetter_45 : fk_get mX2_keepIfBetter 45 2 3 false := ⟨51, RX2, TX2, 7, "", dX2_keepIfBetter_45, rfl, inX2, by decide, rfl, Or.inl (okm (i := 147) rfl rfl)⟩
set_option maxRecDepth 20000 in
theorem fX2_keepIfBetter_48 : fk_get mX2_keepIfBetter 48 2 6 true := ⟨76, RX2, TX2, 7, "", dX2_keepIfBetter_48, rfl, inX2, by decide, rfl, Or.inl (okm (i := 150) rfl rfl)⟩
set_option maxRecDepth 20000 in
theorem fX3_init_9 : fk_get mX3_init 9 3 1 true := ⟨9, RX3, TX3, 2, "", dX3_init_9, rfl, inX3, by decide, rfl, Or.inl (okm (i := 105) rfl rfl)⟩
set_option maxRecDepth 20000 in
theorem fX3_init_14 : fk_get mX3_init 14 3 0 true := ⟨15, RX3, TX3, 2, "", dX3_init_14, rfl, inX3, by decide, rfl, Or.inl (okm (i := 104) rfl rfl)⟩
set_option maxRecDepth 20000 in
theorem fX3_noneIsNegative_5 : fk_get mX3_noneIsNegative 5 3 0 false := ⟨15, RX3, TX3, 2, "", dX3_noneIsNegative_5, rfl, inX3, by decide, rfl, Or.inl (okm (i := 104) rfl rfl)⟩
set_option maxRecDepth 20000 in
theorem fX3_noneIsNegative_8 : fk_get mX3_noneIsNegative 8 6 1 false := ⟨19, RX6, TX6, 2, "FewWays", dX3_noneIsNegative_8, rfl, inX6, by decide, rfl, Or.inr (fw_nm (i := 64) rfl rfl)⟩
set_option maxRecDepth 20000 in
theorem kX3_noneIsNegative_19 : fk_V mX3_noneIsNegative mX3_determinant 19 3 1 := ⟨25, "", TX3, 2, dX3_noneIsNegative_19, rfl, Or.inl (okm (i := 296) rfl rfl), (okm (i := 297) rfl rfl), (okm (i := 298) rfl rfl), (okm (i := 36) rfl rfl), (okm (i := 299) rfl rfl), ⟨by decide, by decide, by decide +kernel⟩, by decide⟩
set_option maxRecDepth 20000 in
theorem fX3_rank_7 : fk_get mX3_rank 7 3 0 false := ⟨15, RX3, TX3, 2, "", dX3_rank_7, rfl, inX3, by decide, rfl, Or.inl (okm (i := 104) rfl rfl)⟩
set_option maxRecDepth 20000 in
theorem fX3_rank_10 : fk_get mX3_rank 10 6 1 false := ⟨19, RX6, TX6, 2, "FewWays", dX3_rank_10, rfl, inX6, by decide, rfl, Or.inr (fw_nm (i := 64) rfl rfl)⟩
set_option maxRecDepth 20000 in
theorem kX3_rank_21 : fk_V mX3_rank mX3_determinant 21 3 1 := ⟨25, "", TX3, 2, dX3_rank_21, rfl, Or.inl (okm (i := 296) rfl rfl), (okm (i := 297) rfl rfl), (okm (i := 298) rfl rfl), (okm (i := 36) rfl rfl), (okm (i := 299) rfl rfl), ⟨by decide, by decide, by decide +kernel⟩, by decide⟩
set_option maxRecDepth 20000 in
theorem kX3_rank_31 : fk_S mX3_rank mJ6_bitCount_0f7a4 31 1 := ⟨29, "", dX3_rank_31, Or.inl (okm (i := 300) rfl rfl), (okm (i := 301) rfl rfl), (okm (i := 43) rfl rfl), (okm (i := 302) rfl rfl), ⟨by decide, by decide, by decide +kernel⟩, by decide⟩
set_option maxRecDepth 20000 in
theorem kX3_rank_34 : fk_M mX3_rank 34 Lib.Math.max.name Lib.Math.max.code 2 := ⟨35, dX3_rank_34, (okm (i := 333) rfl rfl), (okm (i := 270) rfl rfl), (okm (i := 42) rfl rfl), (okm (i := 271) rfl rfl)⟩
set_option maxRecDepth 20000 in
theorem fX3_determinant_1 : fk_get mX3_determinant 1 3 1 false := ⟨9, RX3, TX3, 2, "", dX3_determinant_1, rfl, inX3, by decide, rfl, Or.inl (okm (i := 105) rfl rfl)⟩
set_option maxRecDepth 20000 in
theorem fX3_determinant_23 : fk_get mX3_determinant 23 3 1 false := ⟨9, RX3, TX3, 2, "", dX3_determinant_23, rfl, inX3, by decide, rfl, Or.inl (okm (i := 105) rfl rfl)⟩
set_option maxRecDepth 20000 in
theorem kX3_determinant_30 : fk_S mX3_determinant mJ6_bitCount_0f7a4 30 1 := ⟨29, "", dX3_determinant_30, Or.inl (okm (i := 300) rfl rfl), (okm (i := 301) rfl rfl), (okm (i := 43) rfl rfl), (okm (i := 302) rfl rfl), ⟨by decide, by decide, by decide +kernel⟩, by decide⟩
set_option maxRecDepth 20000 in
theorem kX3_determinant_33 : fk_S mX3_determinant mX3_memberAt 33 2 := ⟨41, "", dX3_determinant_33, Or.inl (okm (i := 306) rfl rfl), (okm (i := 307) rfl rfl), (okm (i := 36) rfl rfl), (okm (i := 308) rfl rfl), ⟨by decide, by decide, by decide +kernel⟩, by decide⟩
set_option maxRecDepth 20000 in
theorem kX3_determinant_37 : fk_V mX3_determinant mX3_expand 37 3 2 := ⟨44, "", TX3, 2, dX3_determinant_37, rfl, Or.inl (okm (i := 312) rfl rfl), (okm (i := 314) rfl rfl), (okm (i := 7) rfl rfl), (okm (i := 36) rfl rfl), (okm (i := 315) rfl rfl), ⟨by decide, by decide, by decide +kernel⟩, by decide⟩
set_option maxRecDepth 20000 in
theorem fX3_determinant_48 : fk_get mX3_determinant 48 3 1 false := ⟨9, RX3, TX3, 2, "", dX3_determinant_48, rfl, inX3, by decide, rfl, Or.inl (okm (i := 105) rfl rfl)⟩
set_option maxRecDepth 20000 in
theorem fX3_expand_8 : fk_get mX3_expand 8 3 0 false := ⟨15, RX3, TX3, 2, "", dX3_expand_8, rfl, inX3, by decide, rfl, Or.inl (okm (i := 104) rfl rfl)⟩
set_option maxRecDepth 20000 in
theorem fX3_expand_11 : fk_get mX3_expand 11 6 1 false := ⟨19, RX6, TX6, 2, "FewWays", dX3_expand_11, rfl, inX6, by decide, rfl, Or.inr (fw_nm (i := 64) rfl rfl)⟩
set_option maxRecDepth 20000 in
theorem kX3_expand_22 : fk_S mX3_expand mX7_holds 22 2 := ⟨48, "FewWays", dX3_expand_22, Or.inr (fw_nm (i := 309) rfl rfl), (okm (i := 310) rfl rfl), (okm (i := 33) rfl rfl), (okm (i := 311) rfl rfl), ⟨by decide, by decide, by decide +kernel⟩, by decide⟩
set_option maxRecDepth 20000 in
theorem kX3_expand_32 : fk_V mX3_expand mX3_product 32 3 2 := ⟨52, "", TX3, 2, dX3_expand_32, rfl, Or.inl (okm (i := 316) rfl rfl), (okm (i := 318) rfl rfl), (okm (i := 8) rfl rfl), (okm (i := 36) rfl rfl), (okm (i := 319) rfl rfl), ⟨by decide, by decide, by decide +kernel⟩, by decide⟩
set_option maxRecDepth 20000 in
theorem fX3_expand_36 : fk_get mX3_expand 36 3 1 false := ⟨9, RX3, TX3, 2, "", dX3_expand_36, rfl, inX3, by decide, rfl, Or.inl (okm (i := 105) rfl rfl)⟩
set_option maxRecDepth 20000 in
theorem kX3_expand_57 : fk_S mX3_expand mJ6_bitCount_0f7a4 57 1 := ⟨29, "", dX3_expand_57, Or.inl (okm (i := 300) rfl rfl), (okm (i := 301) rfl rfl), (okm (i := 43) rfl rfl), (okm (i := 302) rfl rfl), ⟨by decide, by decide, by decide +kernel⟩, by decide⟩
set_option maxRecDepth 20000 in
theorem kX3_product_5 : fk_V mX3_product mX3_square 5 3 2 := ⟨55, "", TX3, 2, dX3_product_5, rfl, Or.inl (okm (i := 320) rfl rfl), (okm (i := 322) rfl rfl), (okm (i := 9) rfl rfl), (okm (i := 36) rfl rfl), (okm (i := 323) rfl rfl), ⟨by decide, by decide, by decide +kernel⟩, by decide⟩
set_option maxRecDepth 20000 in
theorem kX3_product_13 : fk_V mX3_product mX3_square 13 3 2 := ⟨55, "", TX3, 2, dX3_product_13, rfl, Or.inl (okm (i := 320) rfl rfl), (okm (i := 322) rfl rfl), (okm (i := 9) rfl rfl), (okm (i := 36) rfl rfl), (okm (i := 323) rfl rfl), ⟨by decide, by decide, by decide +kernel⟩, by decide⟩
set_option maxRecDepth 20000 in
theorem kX3_product_24 : fk_V mX3_product mX3_square 24 3 2 := ⟨55, "", TX3, 2, dX3_product_24, rfl, Or.inl (okm (i := 320) rfl rfl), (okm (i := 322) rfl rfl), (okm (i := 9) rfl rfl), (okm (i := 36) rfl rfl), (okm (i := 323) rfl rfl), ⟨by decide, by decide, by decide +kernel⟩, by decide⟩
set_option maxRecDepth 20000 in
theorem fX3_square_1 : fk_get mX3_square 1 3 0 false := ⟨15, RX3, TX3, 2, "", dX3_square_1, rfl, inX3, by decide, rfl, Or.inl (okm (i := 104) rfl rfl)⟩
set_option maxRecDepth 20000 in
theorem kX3_square_6 : fk_V mX3_square mX6_between 6 6 2 := ⟨58, "", TX6, 2, dX3_square_6, rfl, Or.inl (okm (i := 324) rfl rfl), (okm (i := 227) rfl rfl), (okm (i := 228) rfl rfl), (okm (i := 34) rfl rfl), (okm (i := 229) rfl rfl), ⟨by decide, by decide, by decide +kernel⟩, by decide⟩
set_option maxRecDepth 20000 in
theorem kX3_memberAt_12 : fk_S mX3_memberAt mX7_holds 12 2 := ⟨48, "FewWays", dX3_memberAt_12, Or.inr (fw_nm (i := 309) rfl rfl), (okm (i := 310) rfl rfl), (okm (i := 33) rfl rfl), (okm (i := 311) rfl rfl), ⟨by decide, by decide, by decide +kernel⟩, by decide⟩
set_option maxRecDepth 20000 in
theorem fX4_init_12 : fk_get mX4_init 12 4 1 true := ⟨12, RX4, TX4, 4, "", dX4_init_12, rfl, inX4, by decide, rfl, Or.inl (okm (i := 123) rfl rfl)⟩
set_option maxRecDepth 20000 in
theorem fX4_init_21 : fk_get mX4_init 21 4 1 false := ⟨12, RX4, TX4, 4, "", dX4_init_21, rfl, inX4, by decide, rfl, Or.inl (okm (i := 123) rfl rfl)⟩
set_option maxRecDepth 20000 in
theorem fX4_init_27 : fk_get mX4_init 27 4 2 true := ⟨23, RX4, TX4, 4, "", dX4_init_27, rfl, inX4, by decide, rfl, Or.inl (okm (i := 125) rfl rfl)⟩
set_option maxRecDepth 20000 in
theorem fX4_init_35 : fk_get mX4_init 35 4 3 true := ⟨27, RX4, TX4, 4, "", dX4_init_35, rfl, inX4, by decide, rfl, Or.inl (okm (i := 126) rfl rfl)⟩
set_option maxRecDepth 20000 in
theorem fX4_init_40 : fk_get mX4_init 40 4 0 true := ⟨31, RX4, TX4, 4, "", dX4_init_40, rfl, inX4, by decide, rfl, Or.inl (okm (i := 122) rfl rfl)⟩
set_option maxRecDepth 20000 in
theorem fX4_takeAll_1 : fk_get mX4_takeAll 1 4 1 false := ⟨12, RX4, TX4, 4, "", dX4_takeAll_1, rfl, inX4, by decide, rfl, Or.inl (okm (i := 123) rfl rfl)⟩
set_option maxRecDepth 20000 in
theorem fX4_takeAll_5 : fk_get mX4_takeAll 5 4 0 false := ⟨31, RX4, TX4, 4, "", dX4_takeAll_5, rfl, inX4, by decide, rfl, Or.inl (okm (i := 122) rfl rfl)⟩
set_option maxRecDepth 20000 in
theorem kX4_takeAll_8 : fk_V mX4_takeAll mX6_copyDoubled 8 6 1 := ⟨34, "", TX6, 2, dX4_takeAll_8, rfl, Or.inl (okm (i := 371) rfl rfl), (okm (i := 372) rfl rfl), (okm (i := 373) rfl rfl), (okm (i := 34) rfl rfl), (okm (i := 374) rfl rfl), ⟨by decide, by decide, by decide +kernel⟩, by decide⟩
set_option maxRecDepth 20000 in
theorem fX4_takeAll_12 : fk_get mX4_takeAll 12 4 2 false := ⟨23, RX4, TX4, 4, "", dX4_takeAll_12, rfl, inX4, by decide, rfl, Or.inl (okm (i := 125) rfl rfl)⟩
set_option maxRecDepth 20000 in
theorem kX4_takeAll_16 : fk_V mX4_takeAll mX1_judge 16 1 1 := ⟨37, "", TX1, 4, dX4_takeAll_16, rfl, Or.inl (okm (i := 375) rfl rfl), (okm (i := 246) rfl rfl), (okm (i := 247) rfl rfl), (okm (i := 35) rfl rfl), (okm (i := 248) rfl rfl), ⟨by decide, by decide, by decide +kernel⟩, by decide⟩
set_option maxRecDepth 20000 in
theorem fX4_takeAll_20 : fk_get mX4_takeAll 20 4 2 false := ⟨23, RX4, TX4, 4, "", dX4_takeAll_20, rfl, inX4, by decide, rfl, Or.inl (okm (i := 125) rfl rfl)⟩
set_option maxRecDepth 20000 in
theorem fX4_takeAll_23 : fk_get mX4_takeAll 23 1 3 false := ⟨41, RX1, TX1, 4, "FewWays", dX4_takeAll_23, rfl, inX1, by decide, rfl, Or.inr (fw_nm (i := 86) rfl rfl)⟩
set_option maxRecDepth 20000 in
theorem fX4_takeAll_40 : fk_get mX4_takeAll 40 4 1 false := ⟨12, RX4, TX4, 4, "", dX4_takeAll_40, rfl, inX4, by decide, rfl, Or.inl (okm (i := 123) rfl rfl)⟩
set_option maxRecDepth 20000 in
theorem fX4_takeAll_43 : fk_get mX4_takeAll 43 6 1 false := ⟨45, RX6, TX6, 2, "FewWays", dX4_takeAll_43, rfl, inX6, by decide, rfl, Or.inr (fw_nm (i := 67) rfl rfl)⟩
set_option maxRecDepth 20000 in
theorem fX4_takeAll_51 : fk_get mX4_takeAll 51 4 3 false := ⟨27, RX4, TX4, 4, "", dX4_takeAll_51, rfl, inX4, by decide, rfl, Or.inl (okm (i := 126) rfl rfl)⟩
set_option maxRecDepth 20000 in
theorem kX4_takeAll_61 : fk_V mX4_takeAll mX4_mostHalves 61 4 1 := ⟨48, "", TX4, 4, dX4_takeAll_61, rfl, Or.inl (okm (i := 376) rfl rfl), (okm (i := 378) rfl rfl), (okm (i := 10) rfl rfl), (okm (i := 37) rfl rfl), (okm (i := 379) rfl rfl), ⟨by decide, by decide, by decide +kernel⟩, by decide⟩
set_option maxRecDepth 20000 in
theorem fX4_takeAll_70 : fk_get mX4_takeAll 70 4 1 false := ⟨12, RX4, TX4, 4, "", dX4_takeAll_70, rfl, inX4, by decide, rfl, Or.inl (okm (i := 123) rfl rfl)⟩
set_option maxRecDepth 20000 in
theorem fX4_takeAll_75 : fk_get mX4_takeAll 75 4 3 false := ⟨27, RX4, TX4, 4, "", dX4_takeAll_75, rfl, inX4, by decide, rfl, Or.inl (okm (i := 126) rfl rfl)⟩
set_option maxRecDepth 20000 in
theorem kX4_takeAll_81 : fk_V mX4_takeAll mX6_putCut 81 6 2 := ⟨52, "", TX6, 2, dX4_takeAll_81, rfl, Or.inl (okm (i := 389) rfl rfl), (okm (i := 359) rfl rfl), (okm (i := 360) rfl rfl), (okm (i := 34) rfl rfl), (okm (i := 361) rfl rfl), ⟨by decide, by decide, by decide +kernel⟩, by decide⟩
set_option maxRecDepth 20000 in
theorem fX4_mostHalves_7 : fk_get mX4_mostHalves 7 4 1 false := ⟨12, RX4, TX4, 4, "", dX4_mostHalves_7, rfl, inX4, by decide, rfl, Or.inl (okm (i := 123) rfl rfl)⟩
set_option maxRecDepth 20000 in
theorem fX4_mostHalves_10 : fk_get mX4_mostHalves 10 6 1 false := ⟨45, RX6, TX6, 2, "FewWays", dX4_mostHalves_10, rfl, inX6, by decide, rfl, Or.inr (fw_nm (i := 67) rfl rfl)⟩
set_option maxRecDepth 20000 in
theorem fX4_mostHalves_22 : fk_get mX4_mostHalves 22 4 1 false := ⟨12, RX4, TX4, 4, "", dX4_mostHalves_22, rfl, inX4, by decide, rfl, Or.inl (okm (i := 123) rfl rfl)⟩
set_option maxRecDepth 20000 in
theorem fX4_mostHalves_25 : fk_get mX4_mostHalves 25 6 1 false := ⟨45, RX6, TX6, 2, "FewWays", dX4_mostHalves_25, rfl, inX6, by decide, rfl, Or.inr (fw_nm (i := 67) rfl rfl)⟩
set_option maxRecDepth 20000 in
theorem fX4_mostHalves_38 : fk_get mX4_mostHalves 38 4 1 false := ⟨12, RX4, TX4, 4, "", dX4_mostHalves_38, rfl, inX4, by decide, rfl, Or.inl (okm (i := 123) rfl rfl)⟩
set_option maxRecDepth 20000 in
theorem fX4_mostHalves_41 : fk_get mX4_mostHalves 41 6 1 false := ⟨45, RX6, TX6, 2, "FewWays", dX4_mostHalves_41, rfl, inX6, by decide, rfl, Or.inr (fw_nm (i := 67) rfl rfl)⟩
set_option maxRecDepth 20000 in
theorem kX4_mostHalves_51 : fk_S mX4_mostHalves mX7_parts 51 3 := ⟨56, "FewWays", dX4_mostHalves_51, Or.inr (fw_nm (i := 380) rfl rfl), (okm (i := 355) rfl rfl), (okm (i := 33) rfl rfl), (okm (i := 356) rfl rfl), ⟨by decide, by decide, by decide +kernel⟩, by decide⟩
set_option maxRecDepth 20000 in
theorem kX4_mostHalves_61 : fk_S mX4_mostHalves mX7_parts 61 3 := ⟨56, "FewWays", dX4_mostHalves_61, Or.inr (fw_nm (i := 380) rfl rfl), (okm (i := 355) rfl rfl), (okm (i := 33) rfl rfl), (okm (i := 356) rfl rfl), ⟨by decide, by decide, by decide +kernel⟩, by decide⟩
set_option maxRecDepth 20000 in
theorem kX4_mostHalves_74 : fk_V mX4_mostHalves mX4_spareWay 74 4 3 := ⟨60, "", TX4, 4, dX4_mostHalves_74, rfl, Or.inl (okm (i := 381) rfl rfl), (okm (i := 383) rfl rfl), (okm (i := 11) rfl rfl), (okm (i := 37) rfl rfl), (okm (i := 384) rfl rfl), ⟨by decide, by decide, by decide +kernel⟩, by decide⟩
set_option maxRecDepth 20000 in
theorem kX4_mostHalves_79 : fk_M mX4_mostHalves 79 Lib.Math.min.name Lib.Math.min.code 2 := ⟨64, dX4_mostHalves_79, (okm (i := 386) rfl rfl), (okm (i := 387) rfl rfl), (okm (i := 42) rfl rfl), (okm (i := 388) rfl rfl)⟩
set_option maxRecDepth 20000 in
theorem fX4_spareWay_1 : fk_get mX4_spareWay 1 4 1 false := ⟨12, RX4, TX4, 4, "", dX4_spareWay_1, rfl, inX4, by decide, rfl, Or.inl (okm (i := 123) rfl rfl)⟩
set_option maxRecDepth 20000 in
theorem kX4_spareWay_6 : fk_V mX4_spareWay mX6_between 6 6 2 := ⟨70, "", TX6, 2, dX4_spareWay_6, rfl, Or.inl (okm (i := 385) rfl rfl), (okm (i := 227) rfl rfl), (okm (i := 228) rfl rfl), (okm (i := 34) rfl rfl), (okm (i := 229) rfl rfl), ⟨by decide, by decide, by decide +kernel⟩, by decide⟩
set_option maxRecDepth 20000 in
theorem fX4_spareWay_10 : fk_get mX4_spareWay 10 4 1 false := ⟨12, RX4, TX4, 4, "", dX4_spareWay_10, rfl, inX4, by decide, rfl, Or.inl (okm (i := 123) rfl rfl)⟩
set_option maxRecDepth 20000 in
theorem kX4_spareWay_15 : fk_V mX4_spareWay mX6_between 15 6 2 := ⟨70, "", TX6, 2, dX4_spareWay_15, rfl, Or.inl (okm (i := 385) rfl rfl), (okm (i := 227) rfl rfl), (okm (i := 228) rfl rfl), (okm (i := 34) rfl rfl), (okm (i := 229) rfl rfl), ⟨by decide, by decide, by decide +kernel⟩, by decide⟩
set_option maxRecDepth 20000 in
theorem fX4_spareWay_20 : fk_get mX4_spareWay 20 4 1 false := ⟨12, RX4, TX4, 4, "", dX4_spareWay_20, rfl, inX4, by decide, rfl, Or.inl (okm (i := 123) rfl rfl)⟩
set_option maxRecDepth 20000 in
theorem kX4_spareWay_25 : fk_V mX4_spareWay mX6_between 25 6 2 := ⟨70, "", TX6, 2, dX4_spareWay_25, rfl, Or.inl (okm (i := 385) rfl rfl), (okm (i := 227) rfl rfl), (okm (i := 228) rfl rfl), (okm (i := 34) rfl rfl), (okm (i := 229) rfl rfl), ⟨by decide, by decide, by decide +kernel⟩, by decide⟩
set_option maxRecDepth 20000 in
theorem fX5_init_9 : fk_get mX5_init 9 5 0 true := ⟨9, RX5, TX5, 1, "", dX5_init_9, rfl, inX5, by decide, rfl, Or.inl (okm (i := 182) rfl rfl)⟩
set_option maxRecDepth 20000 in
theorem kX5_size_15 : fk_S mX5_size mX7_holds 15 2 := ⟨15, "FewWays", dX5_size_15, Or.inr (fw_nm (i := 487) rfl rfl), (okm (i := 310) rfl rfl), (okm (i := 33) rfl rfl), (okm (i := 311) rfl rfl), ⟨by decide, by decide, by decide +kernel⟩, by decide⟩
set_option maxRecDepth 20000 in
theorem fX5_size_22 : fk_get mX5_size 22 5 0 false := ⟨9, RX5, TX5, 1, "", dX5_size_22, rfl, inX5, by decide, rfl, Or.inl (okm (i := 182) rfl rfl)⟩
set_option maxRecDepth 20000 in
theorem fX5_size_33 : fk_get mX5_size 33 5 0 false := ⟨9, RX5, TX5, 1, "", dX5_size_33, rfl, inX5, by decide, rfl, Or.inl (okm (i := 182) rfl rfl)⟩
set_option maxRecDepth 20000 in
theorem kX5_size_48 : fk_M mX5_size 48 Lib.Math.abs.name Lib.Math.abs.code 1 := ⟨19, dX5_size_48, (okm (i := 488) rfl rfl), (okm (i := 422) rfl rfl), (okm (i := 42) rfl rfl), (okm (i := 423) rfl rfl)⟩
set_option maxRecDepth 20000 in
theorem kX5_rowsWithin_17 : fk_V mX5_rowsWithin mX5_size 17 5 2 := ⟨25, "", TX5, 1, dX5_rowsWithin_17, rfl, Or.inl (okm (i := 483) rfl rfl), (okm (i := 484) rfl rfl), (okm (i := 485) rfl rfl), (okm (i := 40) rfl rfl), (okm (i := 486) rfl rfl), ⟨by decide, by decide, by decide +kernel⟩, by decide⟩
set_option maxRecDepth 20000 in
theorem kX5_smallestRow_5 : fk_V mX5_smallestRow mX5_size 5 5 2 := ⟨25, "", TX5, 1, dX5_smallestRow_5, rfl, Or.inl (okm (i := 483) rfl rfl), (okm (i := 484) rfl rfl), (okm (i := 485) rfl rfl), (okm (i := 40) rfl rfl), (okm (i := 486) rfl rfl), ⟨by decide, by decide, by decide +kernel⟩, by decide⟩
set_option maxRecDepth 20000 in
theorem kX5_smallestRow_24 : fk_V mX5_smallestRow mX5_size 24 5 2 := ⟨25, "", TX5, 1, dX5_smallestRow_24, rfl, Or.inl (okm (i := 483) rfl rfl), (okm (i := 484) rfl rfl), (okm (i := 485) rfl rfl), (okm (i := 40) rfl rfl), (okm (i := 486) rfl rfl), ⟨by decide, by decide, by decide +kernel⟩, by decide⟩
set_option maxRecDepth 20000 in
theorem fX6_init_9 : fk_get mX6_init 9 6 0 true := ⟨9, RX6, TX6, 2, "", dX6_init_9, rfl, inX6, by decide, rfl, Or.inl (okm (i := 62) rfl rfl)⟩
set_option maxRecDepth 20000 in
theorem kX6_init_14 : fk_V mX6_init mX6_reset 14 6 1 := ⟨15, "", TX6, 2, dX6_init_14, rfl, Or.inl (okm (i := 58) rfl rfl), (okm (i := 59) rfl rfl), (okm (i := 60) rfl rfl), (okm (i := 34) rfl rfl), (okm (i := 61) rfl rfl), ⟨by decide, by decide, by decide +kernel⟩, by decide⟩
set_option maxRecDepth 20000 in
theorem fX6_reset_2 : fk_get mX6_reset 2 6 1 true := ⟨19, RX6, TX6, 2, "", dX6_reset_2, rfl, inX6, by decide, rfl, Or.inl (okm (i := 63) rfl rfl)⟩
set_option maxRecDepth 20000 in
theorem fX6_reset_20 : fk_get mX6_reset 20 6 0 false := ⟨9, RX6, TX6, 2, "", dX6_reset_20, rfl, inX6, by decide, rfl, Or.inl (okm (i := 62) rfl rfl)⟩
set_option maxRecDepth 20000 in
theorem fX6_copyDoubled_2 : fk_get mX6_copyDoubled 2 6 1 false := ⟨19, RX6, TX6, 2, "", dX6_copyDoubled_2, rfl, inX6, by decide, rfl, Or.inl (okm (i := 63) rfl rfl)⟩
set_option maxRecDepth 20000 in
theorem fX6_copyDoubled_5 : fk_get mX6_copyDoubled 5 6 1 true := ⟨19, RX6, TX6, 2, "", dX6_copyDoubled_5, rfl, inX6, by decide, rfl, Or.inl (okm (i := 63) rfl rfl)⟩
set_option maxRecDepth 20000 in
theorem fX6_copyDoubled_12 : fk_get mX6_copyDoubled 12 6 0 false := ⟨9, RX6, TX6, 2, "", dX6_copyDoubled_12, rfl, inX6, by decide, rfl, Or.inl (okm (i := 62) rfl rfl)⟩
set_option maxRecDepth 20000 in
theorem fX6_copyDoubled_20 : fk_get mX6_copyDoubled 20 6 0 false := ⟨9, RX6, TX6, 2, "", dX6_copyDoubled_20, rfl, inX6, by decide, rfl, Or.inl (okm (i := 62) rfl rfl)⟩
set_option maxRecDepth 20000 in
theorem fX6_copyDoubled_26 : fk_get mX6_copyDoubled 26 6 0 false := ⟨9, RX6, TX6, 2, "", dX6_copyDoubled_26, rfl, inX6, by decide, rfl, Or.inl (okm (i := 62) rfl rfl)⟩
set_option maxRecDepth 20000 in
theorem fX6_hasPoint_6 : fk_get mX6_hasPoint 6 6 1 false := ⟨19, RX6, TX6, 2, "", dX6_hasPoint_6, rfl, inX6, by decide, rfl, Or.inl (okm (i := 63) rfl rfl)⟩
set_option maxRecDepth 20000 in
theorem kX6_hasPair_2 : fk_V mX6_hasPair mX6_hasPoint 2 6 1 := ⟨23, "", TX6, 2, dX6_hasPair_2, rfl, Or.inl (okm (i := 222) rfl rfl), (okm (i := 223) rfl rfl), (okm (i := 224) rfl rfl), (okm (i := 34) rfl rfl), (okm (i := 225) rfl rfl), ⟨by decide, by decide, by decide +kernel⟩, by decide⟩
set_option maxRecDepth 20000 in
theorem kX6_hasPair_10 : fk_V mX6_hasPair mX6_hasPoint 10 6 1 := ⟨23, "", TX6, 2, dX6_hasPair_10, rfl, Or.inl (okm (i := 222) rfl rfl), (okm (i := 223) rfl rfl), (okm (i := 224) rfl rfl), (okm (i := 34) rfl rfl), (okm (i := 225) rfl rfl), ⟨by decide, by decide, by decide +kernel⟩, by decide⟩
set_option maxRecDepth 20000 in
theorem fX6_hasCut_7 : fk_get mX6_hasCut 7 6 1 false := ⟨19, RX6, TX6, 2, "", dX6_hasCut_7, rfl, inX6, by decide, rfl, Or.inl (okm (i := 63) rfl rfl)⟩
set_option maxRecDepth 20000 in
theorem kX6_hasCut_16 : fk_S mX6_hasCut mX7_holds 16 2 := ⟨27, "FewWays", dX6_hasCut_16, Or.inr (fw_nm (i := 348) rfl rfl), (okm (i := 310) rfl rfl), (okm (i := 33) rfl rfl), (okm (i := 311) rfl rfl), ⟨by decide, by decide, by decide +kernel⟩, by decide⟩
set_option maxRecDepth 20000 in
theorem fX6_between_1 : fk_get mX6_between 1 6 0 false := ⟨9, RX6, TX6, 2, "", dX6_between_1, rfl, inX6, by decide, rfl, Or.inl (okm (i := 62) rfl rfl)⟩
set_option maxRecDepth 20000 in
theorem fX6_put_1 : fk_get mX6_put 1 6 0 false := ⟨9, RX6, TX6, 2, "", dX6_put_1, rfl, inX6, by decide, rfl, Or.inl (okm (i := 62) rfl rfl)⟩
set_option maxRecDepth 20000 in
theorem fX6_put_13 : fk_get mX6_put 13 6 0 false := ⟨9, RX6, TX6, 2, "", dX6_put_13, rfl, inX6, by decide, rfl, Or.inl (okm (i := 62) rfl rfl)⟩
set_option maxRecDepth 20000 in
theorem fX6_bearsCut_4 : fk_get mX6_bearsCut 4 6 1 false := ⟨19, RX6, TX6, 2, "", dX6_bearsCut_4, rfl, inX6, by decide, rfl, Or.inl (okm (i := 63) rfl rfl)⟩
set_option maxRecDepth 20000 in
theorem fX6_bearsCut_18 : fk_get mX6_bearsCut 18 6 1 false := ⟨19, RX6, TX6, 2, "", dX6_bearsCut_18, rfl, inX6, by decide, rfl, Or.inl (okm (i := 63) rfl rfl)⟩
set_option maxRecDepth 20000 in
theorem kX6_bearsCut_28 : fk_V mX6_bearsCut mX6_between 28 6 2 := ⟨31, "", TX6, 2, dX6_bearsCut_28, rfl, Or.inl (okm (i := 353) rfl rfl), (okm (i := 227) rfl rfl), (okm (i := 228) rfl rfl), (okm (i := 34) rfl rfl), (okm (i := 229) rfl rfl), ⟨by decide, by decide, by decide +kernel⟩, by decide⟩
set_option maxRecDepth 20000 in
theorem kX6_bearsCut_39 : fk_S mX6_bearsCut mX7_parts 39 3 := ⟨35, "FewWays", dX6_bearsCut_39, Or.inr (fw_nm (i := 354) rfl rfl), (okm (i := 355) rfl rfl), (okm (i := 33) rfl rfl), (okm (i := 356) rfl rfl), ⟨by decide, by decide, by decide +kernel⟩, by decide⟩
set_option maxRecDepth 20000 in
theorem fX6_putCut_4 : fk_get mX6_putCut 4 6 1 false := ⟨19, RX6, TX6, 2, "", dX6_putCut_4, rfl, inX6, by decide, rfl, Or.inl (okm (i := 63) rfl rfl)⟩
set_option maxRecDepth 20000 in
theorem fX6_putCut_18 : fk_get mX6_putCut 18 6 1 false := ⟨19, RX6, TX6, 2, "", dX6_putCut_18, rfl, inX6, by decide, rfl, Or.inl (okm (i := 63) rfl rfl)⟩
set_option maxRecDepth 20000 in
theorem kX6_putCut_28 : fk_S mX6_putCut mX7_parts 28 3 := ⟨35, "FewWays", dX6_putCut_28, Or.inr (fw_nm (i := 354) rfl rfl), (okm (i := 355) rfl rfl), (okm (i := 33) rfl rfl), (okm (i := 356) rfl rfl), ⟨by decide, by decide, by decide +kernel⟩, by decide⟩
set_option maxRecDepth 20000 in
theorem kX6_putCut_42 : fk_V mX6_putCut mX6_between 42 6 2 := ⟨31, "", TX6, 2, dX6_putCut_42, rfl, Or.inl (okm (i := 353) rfl rfl), (okm (i := 227) rfl rfl), (okm (i := 228) rfl rfl), (okm (i := 34) rfl rfl), (okm (i := 229) rfl rfl), ⟨by decide, by decide, by decide +kernel⟩, by decide⟩
set_option maxRecDepth 20000 in
theorem kX6_putCut_47 : fk_V mX6_putCut mX6_put 47 6 3 := ⟨39, "", TX6, 2, dX6_putCut_47, rfl, Or.inl (okm (i := 362) rfl rfl), (okm (i := 231) rfl rfl), (okm (i := 232) rfl rfl), (okm (i := 34) rfl rfl), (okm (i := 233) rfl rfl), ⟨by decide, by decide, by decide +kernel⟩, by decide⟩
set_option maxRecDepth 20000 in
theorem fX7_init_12 : fk_get mX7_init 12 7 0 true := ⟨12, RX7, TX7, 7, "", dX7_init_12, rfl, inX7, by decide, rfl, Or.inl (okm (i := 187) rfl rfl)⟩
set_option maxRecDepth 20000 in
theorem fX7_init_21 : fk_get mX7_init 21 7 0 false := ⟨12, RX7, TX7, 7, "", dX7_init_21, rfl, inX7, by decide, rfl, Or.inl (okm (i := 187) rfl rfl)⟩
set_option maxRecDepth 20000 in
theorem fX7_init_27 : fk_get mX7_init 27 7 1 true := ⟨21, RX7, TX7, 7, "", dX7_init_27, rfl, inX7, by decide, rfl, Or.inl (okm (i := 188) rfl rfl)⟩
set_option maxRecDepth 20000 in
theorem fX7_init_36 : fk_get mX7_init 36 7 0 false := ⟨12, RX7, TX7, 7, "", dX7_init_36, rfl, inX7, by decide, rfl, Or.inl (okm (i := 187) rfl rfl)⟩
set_option maxRecDepth 20000 in
theorem fX7_init_42 : fk_get mX7_init 42 7 2 true := ⟨28, RX7, TX7, 7, "", dX7_init_42, rfl, inX7, by decide, rfl, Or.inl (okm (i := 189) rfl rfl)⟩
set_option maxRecDepth 20000 in
theorem fX7_init_51 : fk_get mX7_init 51 7 0 false := ⟨12, RX7, TX7, 7, "", dX7_init_51, rfl, inX7, by decide, rfl, Or.inl (okm (i := 187) rfl rfl)⟩
set_option maxRecDepth 20000 in
theorem fX7_init_57 : fk_get mX7_init 57 7 3 true := ⟨35, RX7, TX7, 7, "", dX7_init_57, rfl, inX7, by decide, rfl, Or.inl (okm (i := 190) rfl rfl)⟩
set_option maxRecDepth 20000 in
theorem fX7_init_66 : fk_get mX7_init 66 7 0 false := ⟨12, RX7, TX7, 7, "", dX7_init_66, rfl, inX7, by decide, rfl, Or.inl (okm (i := 187) rfl rfl)⟩
set_option maxRecDepth 20000 in
theorem fX7_init_72 : fk_get mX7_init 72 7 4 true := ⟨42, RX7, TX7, 7, "", dX7_init_72, rfl, inX7, by decide, rfl, Or.inl (okm (i := 191) rfl rfl)⟩
set_option maxRecDepth 20000 in
theorem fX7_init_81 : fk_get mX7_init 81 7 0 false := ⟨12, RX7, TX7, 7, "", dX7_init_81, rfl, inX7, by decide, rfl, Or.inl (okm (i := 187) rfl rfl)⟩
set_option maxRecDepth 20000 in
theorem fX7_init_87 : fk_get mX7_init 87 7 5 true := ⟨49, RX7, TX7, 7, "", dX7_init_87, rfl, inX7, by decide, rfl, Or.inl (okm (i := 192) rfl rfl)⟩
set_option maxRecDepth 20000 in
theorem fX7_init_98 : fk_get mX7_init 98 7 6 true := ⟨56, RX7, TX7, 7, "", dX7_init_98, rfl, inX7, by decide, rfl, Or.inl (okm (i := 193) rfl rfl)⟩
set_option maxRecDepth 20000 in
theorem fX7_table_14 : fk_get mX7_table 14 7 0 false := ⟨12, RX7, TX7, 7, "", dX7_table_14, rfl, inX7, by decide, rfl, Or.inl (okm (i := 187) rfl rfl)⟩
set_option maxRecDepth 20000 in
theorem kX7_table_18 : fk_V mX7_table mX6_reset 18 6 1 := ⟨60, "", TX6, 2, dX7_table_18, rfl, Or.inl (okm (i := 213) rfl rfl), (okm (i := 59) rfl rfl), (okm (i := 60) rfl rfl), (okm (i := 34) rfl rfl), (okm (i := 61) rfl rfl), ⟨by decide, by decide, by decide +kernel⟩, by decide⟩
set_option maxRecDepth 20000 in
theorem fX7_set_1 : fk_get mX7_set 1 7 0 false := ⟨12, RX7, TX7, 7, "", dX7_set_1, rfl, inX7, by decide, rfl, Or.inl (okm (i := 187) rfl rfl)⟩
set_option maxRecDepth 20000 in
theorem kX7_set_6 : fk_V mX7_set mX6_hasPair 6 6 2 := ⟨64, "", TX6, 2, dX7_set_6, rfl, Or.inl (okm (i := 218) rfl rfl), (okm (i := 219) rfl rfl), (okm (i := 220) rfl rfl), (okm (i := 34) rfl rfl), (okm (i := 221) rfl rfl), ⟨by decide, by decide, by decide +kernel⟩, by decide⟩
set_option maxRecDepth 20000 in
theorem fX7_set_30 : fk_get mX7_set 30 7 0 false := ⟨12, RX7, TX7, 7, "", dX7_set_30, rfl, inX7, by decide, rfl, Or.inl (okm (i := 187) rfl rfl)⟩
set_option maxRecDepth 20000 in
theorem kX7_set_35 : fk_V mX7_set mX6_between 35 6 2 := ⟨68, "", TX6, 2, dX7_set_35, rfl, Or.inl (okm (i := 226) rfl rfl), (okm (i := 227) rfl rfl), (okm (i := 228) rfl rfl), (okm (i := 34) rfl rfl), (okm (i := 229) rfl rfl), ⟨by decide, by decide, by decide +kernel⟩, by decide⟩
set_option maxRecDepth 20000 in
theorem fX7_set_41 : fk_get mX7_set 41 7 0 false := ⟨12, RX7, TX7, 7, "", dX7_set_41, rfl, inX7, by decide, rfl, Or.inl (okm (i := 187) rfl rfl)⟩
set_option maxRecDepth 20000 in
theorem kX7_set_47 : fk_V mX7_set mX6_put 47 6 3 := ⟨72, "", TX6, 2, dX7_set_47, rfl, Or.inl (okm (i := 230) rfl rfl), (okm (i := 231) rfl rfl), (okm (i := 232) rfl rfl), (okm (i := 34) rfl rfl), (okm (i := 233) rfl rfl), ⟨by decide, by decide, by decide +kernel⟩, by decide⟩
set_option maxRecDepth 20000 in
theorem fX7_at_1 : fk_get mX7_at 1 7 0 false := ⟨12, RX7, TX7, 7, "", dX7_at_1, rfl, inX7, by decide, rfl, Or.inl (okm (i := 187) rfl rfl)⟩
set_option maxRecDepth 20000 in
theorem kX7_at_6 : fk_V mX7_at mX6_hasPair 6 6 2 := ⟨64, "", TX6, 2, dX7_at_6, rfl, Or.inl (okm (i := 218) rfl rfl), (okm (i := 219) rfl rfl), (okm (i := 220) rfl rfl), (okm (i := 34) rfl rfl), (okm (i := 221) rfl rfl), ⟨by decide, by decide, by decide +kernel⟩, by decide⟩
set_option maxRecDepth 20000 in
theorem fX7_at_13 : fk_get mX7_at 13 7 0 false := ⟨12, RX7, TX7, 7, "", dX7_at_13, rfl, inX7, by decide, rfl, Or.inl (okm (i := 187) rfl rfl)⟩
set_option maxRecDepth 20000 in
theorem kX7_at_18 : fk_V mX7_at mX6_between 18 6 2 := ⟨68, "", TX6, 2, dX7_at_18, rfl, Or.inl (okm (i := 226) rfl rfl), (okm (i := 227) rfl rfl), (okm (i := 228) rfl rfl), (okm (i := 34) rfl rfl), (okm (i := 229) rfl rfl), ⟨by decide, by decide, by decide +kernel⟩, by decide⟩
set_option maxRecDepth 20000 in
theorem kX7_law_1 : fk_S mX7_law mX1_hasLaw 1 1 := ⟨76, "", dX7_law_1, Or.inl (okm (i := 242) rfl rfl), (okm (i := 243) rfl rfl), (okm (i := 35) rfl rfl), (okm (i := 244) rfl rfl), ⟨by decide, by decide, by decide +kernel⟩, by decide⟩
set_option maxRecDepth 20000 in
theorem fX7_law_10 : fk_get mX7_law 10 7 1 false := ⟨21, RX7, TX7, 7, "", dX7_law_10, rfl, inX7, by decide, rfl, Or.inl (okm (i := 188) rfl rfl)⟩
set_option maxRecDepth 20000 in
theorem kX7_law_14 : fk_V mX7_law mX1_judge 14 1 1 := ⟨80, "", TX1, 4, dX7_law_14, rfl, Or.inl (okm (i := 245) rfl rfl), (okm (i := 246) rfl rfl), (okm (i := 247) rfl rfl), (okm (i := 35) rfl rfl), (okm (i := 248) rfl rfl), ⟨by decide, by decide, by decide +kernel⟩, by decide⟩
set_option maxRecDepth 20000 in
theorem fX7_law_18 : fk_get mX7_law 18 7 1 false := ⟨21, RX7, TX7, 7, "", dX7_law_18, rfl, inX7, by decide, rfl, Or.inl (okm (i := 188) rfl rfl)⟩
set_option maxRecDepth 20000 in
theorem fX7_law_21 : fk_get mX7_law 21 1 2 false := ⟨83, RX1, TX1, 4, "FewWays", dX7_law_21, rfl, inX1, by decide, rfl, Or.inr (fw_nm (i := 85) rfl rfl)⟩
set_option maxRecDepth 20000 in
theorem kX7_breaks_1 : fk_S mX7_breaks mX1_hasLaw 1 1 := ⟨76, "", dX7_breaks_1, Or.inl (okm (i := 242) rfl rfl), (okm (i := 243) rfl rfl), (okm (i := 35) rfl rfl), (okm (i := 244) rfl rfl), ⟨by decide, by decide, by decide +kernel⟩, by decide⟩
set_option maxRecDepth 20000 in
theorem fX7_breaks_10 : fk_get mX7_breaks 10 7 1 false := ⟨21, RX7, TX7, 7, "", dX7_breaks_10, rfl, inX7, by decide, rfl, Or.inl (okm (i := 188) rfl rfl)⟩
set_option maxRecDepth 20000 in
theorem kX7_breaks_14 : fk_V mX7_breaks mX1_judge 14 1 1 := ⟨80, "", TX1, 4, dX7_breaks_14, rfl, Or.inl (okm (i := 245) rfl rfl), (okm (i := 246) rfl rfl), (okm (i := 247) rfl rfl), (okm (i := 35) rfl rfl), (okm (i := 248) rfl rfl), ⟨by decide, by decide, by decide +kernel⟩, by decide⟩
set_option maxRecDepth 20000 in
theorem fX7_breaks_18 : fk_get mX7_breaks 18 7 1 false := ⟨21, RX7, TX7, 7, "", dX7_breaks_18, rfl, inX7, by decide, rfl, Or.inl (okm (i := 188) rfl rfl)⟩
set_option maxRecDepth 20000 in
theorem fX7_breaks_21 : fk_get mX7_breaks 21 1 3 false := ⟨87, RX1, TX1, 4, "FewWays", dX7_breaks_21, rfl, inX1, by decide, rfl, Or.inr (fw_nm (i := 88) rfl rfl)⟩
set_option maxRecDepth 20000 in
theorem fX7_flat_1 : fk_get mX7_flat 1 7 2 false := ⟨28, RX7, TX7, 7, "", dX7_flat_1, rfl, inX7, by decide, rfl, Or.inl (okm (i := 189) rfl rfl)⟩
set_option maxRecDepth 20000 in
theorem kX7_flat_4 : fk_V mX7_flat mX3_noneIsNegative 4 3 0 := ⟨90, "", TX3, 2, dX7_flat_4, rfl, Or.inl (okm (i := 292) rfl rfl), (okm (i := 293) rfl rfl), (okm (i := 294) rfl rfl), (okm (i := 36) rfl rfl), (okm (i := 295) rfl rfl), ⟨by decide, by decide, by decide +kernel⟩, by decide⟩
set_option maxRecDepth 20000 in
theorem fX7_ways_1 : fk_get mX7_ways 1 7 2 false := ⟨28, RX7, TX7, 7, "", dX7_ways_1, rfl, inX7, by decide, rfl, Or.inl (okm (i := 189) rfl rfl)⟩
set_option maxRecDepth 20000 in
theorem kX7_ways_4 : fk_V mX7_ways mX3_rank 4 3 0 := ⟨94, "", TX3, 2, dX7_ways_4, rfl, Or.inl (okm (i := 329) rfl rfl), (okm (i := 330) rfl rfl), (okm (i := 331) rfl rfl), (okm (i := 36) rfl rfl), (okm (i := 332) rfl rfl), ⟨by decide, by decide, by decide +kernel⟩, by decide⟩
set_option maxRecDepth 20000 in
theorem fX7_bulk_7 : fk_get mX7_bulk 7 7 0 false := ⟨12, RX7, TX7, 7, "", dX7_bulk_7, rfl, inX7, by decide, rfl, Or.inl (okm (i := 187) rfl rfl)⟩
set_option maxRecDepth 20000 in
theorem fX7_bulk_10 : fk_get mX7_bulk 10 6 1 false := ⟨98, RX6, TX6, 2, "FewWays", dX7_bulk_10, rfl, inX6, by decide, rfl, Or.inr (fw_nm (i := 69) rfl rfl)⟩
set_option maxRecDepth 20000 in
theorem fX7_bulk_21 : fk_get mX7_bulk 21 7 2 false := ⟨28, RX7, TX7, 7, "", dX7_bulk_21, rfl, inX7, by decide, rfl, Or.inl (okm (i := 189) rfl rfl)⟩
set_option maxRecDepth 20000 in
theorem kX7_bulk_31 : fk_V mX7_bulk mX3_determinant 31 3 1 := ⟨103, "", TX3, 2, dX7_bulk_31, rfl, Or.inl (okm (i := 339) rfl rfl), (okm (i := 297) rfl rfl), (okm (i := 298) rfl rfl), (okm (i := 36) rfl rfl), (okm (i := 299) rfl rfl), ⟨by decide, by decide, by decide +kernel⟩, by decide⟩
set_option maxRecDepth 20000 in
theorem fX7_add_1 : fk_get mX7_add 1 7 0 false := ⟨12, RX7, TX7, 7, "", dX7_add_1, rfl, inX7, by decide, rfl, Or.inl (okm (i := 187) rfl rfl)⟩
set_option maxRecDepth 20000 in
theorem kX7_add_5 : fk_V mX7_add mX6_hasCut 5 6 1 := ⟨107, "", TX6, 2, dX7_add_5, rfl, Or.inl (okm (i := 344) rfl rfl), (okm (i := 345) rfl rfl), (okm (i := 346) rfl rfl), (okm (i := 34) rfl rfl), (okm (i := 347) rfl rfl), ⟨by decide, by decide, by decide +kernel⟩, by decide⟩
set_option maxRecDepth 20000 in
theorem fX7_add_26 : fk_get mX7_add 26 7 0 false := ⟨12, RX7, TX7, 7, "", dX7_add_26, rfl, inX7, by decide, rfl, Or.inl (okm (i := 187) rfl rfl)⟩
set_option maxRecDepth 20000 in
theorem kX7_add_31 : fk_V mX7_add mX6_bearsCut 31 6 2 := ⟨110, "", TX6, 2, dX7_add_31, rfl, Or.inl (okm (i := 349) rfl rfl), (okm (i := 350) rfl rfl), (okm (i := 351) rfl rfl), (okm (i := 34) rfl rfl), (okm (i := 352) rfl rfl), ⟨by decide, by decide, by decide +kernel⟩, by decide⟩
set_option maxRecDepth 20000 in
theorem fX7_add_41 : fk_get mX7_add 41 7 0 false := ⟨12, RX7, TX7, 7, "", dX7_add_41, rfl, inX7, by decide, rfl, Or.inl (okm (i := 187) rfl rfl)⟩
set_option maxRecDepth 20000 in
theorem kX7_add_46 : fk_V mX7_add mX6_putCut 46 6 2 := ⟨113, "", TX6, 2, dX7_add_46, rfl, Or.inl (okm (i := 358) rfl rfl), (okm (i := 359) rfl rfl), (okm (i := 360) rfl rfl), (okm (i := 34) rfl rfl), (okm (i := 361) rfl rfl), ⟨by decide, by decide, by decide +kernel⟩, by decide⟩
set_option maxRecDepth 20000 in
theorem fX7_peel_1 : fk_get mX7_peel 1 7 0 false := ⟨12, RX7, TX7, 7, "", dX7_peel_1, rfl, inX7, by decide, rfl, Or.inl (okm (i := 187) rfl rfl)⟩
set_option maxRecDepth 20000 in
theorem kX7_peel_5 : fk_V mX7_peel mX6_hasCut 5 6 1 := ⟨107, "", TX6, 2, dX7_peel_5, rfl, Or.inl (okm (i := 344) rfl rfl), (okm (i := 345) rfl rfl), (okm (i := 346) rfl rfl), (okm (i := 34) rfl rfl), (okm (i := 347) rfl rfl), ⟨by decide, by decide, by decide +kernel⟩, by decide⟩
set_option maxRecDepth 20000 in
theorem fX7_peel_14 : fk_get mX7_peel 14 7 3 false := ⟨35, RX7, TX7, 7, "", dX7_peel_14, rfl, inX7, by decide, rfl, Or.inl (okm (i := 190) rfl rfl)⟩
set_option maxRecDepth 20000 in
theorem kX7_peel_17 : fk_V mX7_peel mX4_takeAll 17 4 0 := ⟨117, "", TX4, 4, dX7_peel_17, rfl, Or.inl (okm (i := 367) rfl rfl), (okm (i := 368) rfl rfl), (okm (i := 369) rfl rfl), (okm (i := 37) rfl rfl), (okm (i := 370) rfl rfl), ⟨by decide, by decide, by decide +kernel⟩, by decide⟩
set_option maxRecDepth 20000 in
theorem fX7_peel_21 : fk_get mX7_peel 21 7 3 false := ⟨35, RX7, TX7, 7, "", dX7_peel_21, rfl, inX7, by decide, rfl, Or.inl (okm (i := 190) rfl rfl)⟩
set_option maxRecDepth 20000 in
theorem fX7_peel_24 : fk_get mX7_peel 24 4 3 false := ⟨120, RX4, TX4, 4, "FewWays", dX7_peel_24, rfl, inX4, by decide, rfl, Or.inr (fw_nm (i := 127) rfl rfl)⟩
set_option maxRecDepth 20000 in
theorem fX7_left_1 : fk_get mX7_left 1 7 0 false := ⟨12, RX7, TX7, 7, "", dX7_left_1, rfl, inX7, by decide, rfl, Or.inl (okm (i := 187) rfl rfl)⟩
set_option maxRecDepth 20000 in
theorem kX7_left_6 : fk_V mX7_left mX6_hasPair 6 6 2 := ⟨64, "", TX6, 2, dX7_left_6, rfl, Or.inl (okm (i := 218) rfl rfl), (okm (i := 219) rfl rfl), (okm (i := 220) rfl rfl), (okm (i := 34) rfl rfl), (okm (i := 221) rfl rfl), ⟨by decide, by decide, by decide +kernel⟩, by decide⟩
set_option maxRecDepth 20000 in
theorem fX7_left_15 : fk_get mX7_left 15 7 3 false := ⟨35, RX7, TX7, 7, "", dX7_left_15, rfl, inX7, by decide, rfl, Or.inl (okm (i := 190) rfl rfl)⟩
set_option maxRecDepth 20000 in
theorem kX7_left_18 : fk_V mX7_left mX4_takeAll 18 4 0 := ⟨117, "", TX4, 4, dX7_left_18, rfl, Or.inl (okm (i := 367) rfl rfl), (okm (i := 368) rfl rfl), (okm (i := 369) rfl rfl), (okm (i := 37) rfl rfl), (okm (i := 370) rfl rfl), ⟨by decide, by decide, by decide +kernel⟩, by decide⟩
set_option maxRecDepth 20000 in
theorem fX7_left_22 : fk_get mX7_left 22 7 3 false := ⟨35, RX7, TX7, 7, "", dX7_left_22, rfl, inX7, by decide, rfl, Or.inl (okm (i := 190) rfl rfl)⟩
set_option maxRecDepth 20000 in
theorem fX7_left_25 : fk_get mX7_left 25 4 1 false := ⟨124, RX4, TX4, 4, "FewWays", dX7_left_25, rfl, inX4, by decide, rfl, Or.inr (fw_nm (i := 124) rfl rfl)⟩
set_option maxRecDepth 20000 in
theorem kX7_left_30 : fk_V mX7_left mX6_between 30 6 2 := ⟨68, "", TX6, 2, dX7_left_30, rfl, Or.inl (okm (i := 226) rfl rfl), (okm (i := 227) rfl rfl), (okm (i := 228) rfl rfl), (okm (i := 34) rfl rfl), (okm (i := 229) rfl rfl), ⟨by decide, by decide, by decide +kernel⟩, by decide⟩
set_option maxRecDepth 20000 in
theorem fX7_line_10 : fk_get mX7_line 10 7 4 false := ⟨42, RX7, TX7, 7, "", dX7_line_10, rfl, inX7, by decide, rfl, Or.inl (okm (i := 191) rfl rfl)⟩
set_option maxRecDepth 20000 in
theorem kX7_line_14 : fk_V mX7_line mX2_isOrder 14 2 1 := ⟨127, "", TX2, 7, dX7_line_14, rfl, Or.inl (okm (i := 398) rfl rfl), (okm (i := 399) rfl rfl), (okm (i := 400) rfl rfl), (okm (i := 38) rfl rfl), (okm (i := 401) rfl rfl), ⟨by decide, by decide, by decide +kernel⟩, by decide⟩
set_option maxRecDepth 20000 in
theorem fX7_line_27 : fk_get mX7_line 27 7 0 false := ⟨12, RX7, TX7, 7, "", dX7_line_27, rfl, inX7, by decide, rfl, Or.inl (okm (i := 187) rfl rfl)⟩
set_option maxRecDepth 20000 in
theorem kX7_line_31 : fk_V mX7_line mX6_hasPoint 31 6 1 := ⟨130, "", TX6, 2, dX7_line_31, rfl, Or.inl (okm (i := 405) rfl rfl), (okm (i := 223) rfl rfl), (okm (i := 224) rfl rfl), (okm (i := 34) rfl rfl), (okm (i := 225) rfl rfl), ⟨by decide, by decide, by decide +kernel⟩, by decide⟩
set_option maxRecDepth 20000 in
theorem fX7_line_40 : fk_get mX7_line 40 7 4 false := ⟨42, RX7, TX7, 7, "", dX7_line_40, rfl, inX7, by decide, rfl, Or.inl (okm (i := 191) rfl rfl)⟩
set_option maxRecDepth 20000 in
theorem kX7_line_44 : fk_V mX7_line mX2_lay 44 2 1 := ⟨133, "", TX2, 7, dX7_line_44, rfl, Or.inl (okm (i := 406) rfl rfl), (okm (i := 407) rfl rfl), (okm (i := 408) rfl rfl), (okm (i := 38) rfl rfl), (okm (i := 409) rfl rfl), ⟨by decide, by decide, by decide +kernel⟩, by decide⟩
set_option maxRecDepth 20000 in
theorem fX7_line_52 : fk_get mX7_line 52 7 4 false := ⟨42, RX7, TX7, 7, "", dX7_line_52, rfl, inX7, by decide, rfl, Or.inl (okm (i := 191) rfl rfl)⟩
set_option maxRecDepth 20000 in
theorem fX7_line_55 : fk_get mX7_line 55 2 1 false := ⟨136, RX2, TX2, 7, "FewWays", dX7_line_55, rfl, inX2, by decide, rfl, Or.inr (fw_nm (i := 145) rfl rfl)⟩
set_option maxRecDepth 20000 in
theorem fX7_line_64 : fk_get mX7_line 64 7 4 false := ⟨42, RX7, TX7, 7, "", dX7_line_64, rfl, inX7, by decide, rfl, Or.inl (okm (i := 191) rfl rfl)⟩
set_option maxRecDepth 20000 in
theorem kX7_line_68 : fk_V mX7_line mX2_stretchPart 68 2 1 := ⟨139, "", TX2, 7, dX7_line_68, rfl, Or.inl (okm (i := 424) rfl rfl), (okm (i := 425) rfl rfl), (okm (i := 426) rfl rfl), (okm (i := 38) rfl rfl), (okm (i := 427) rfl rfl), ⟨by decide, by decide, by decide +kernel⟩, by decide⟩
set_option maxRecDepth 20000 in
theorem fX7_best_12 : fk_get mX7_best 12 7 4 false := ⟨42, RX7, TX7, 7, "", dX7_best_12, rfl, inX7, by decide, rfl, Or.inl (okm (i := 191) rfl rfl)⟩
set_option maxRecDepth 20000 in
theorem kX7_best_15 : fk_V mX7_best mX2_leastStretched 15 2 0 := ⟨143, "", TX2, 7, dX7_best_15, rfl, Or.inl (okm (i := 432) rfl rfl), (okm (i := 433) rfl rfl), (okm (i := 434) rfl rfl), (okm (i := 38) rfl rfl), (okm (i := 435) rfl rfl), ⟨by decide, by decide, by decide +kernel⟩, by decide⟩
set_option maxRecDepth 20000 in
theorem fX7_best_26 : fk_get mX7_best 26 7 4 false := ⟨42, RX7, TX7, 7, "", dX7_best_26, rfl, inX7, by decide, rfl, Or.inl (okm (i := 191) rfl rfl)⟩
set_option maxRecDepth 20000 in
theorem kX7_best_30 : fk_V mX7_best mX2_lay 30 2 1 := ⟨133, "", TX2, 7, dX7_best_30, rfl, Or.inl (okm (i := 406) rfl rfl), (okm (i := 407) rfl rfl), (okm (i := 408) rfl rfl), (okm (i := 38) rfl rfl), (okm (i := 409) rfl rfl), ⟨by decide, by decide, by decide +kernel⟩, by decide⟩
set_option maxRecDepth 20000 in
theorem fX7_best_34 : fk_get mX7_best 34 7 4 false := ⟨42, RX7, TX7, 7, "", dX7_best_34, rfl, inX7, by decide, rfl, Or.inl (okm (i := 191) rfl rfl)⟩
set_option maxRecDepth 20000 in
theorem kX7_best_38 : fk_V mX7_best mX2_stretchPart 38 2 1 := ⟨139, "", TX2, 7, dX7_best_38, rfl, Or.inl (okm (i := 424) rfl rfl), (okm (i := 425) rfl rfl), (okm (i := 426) rfl rfl), (okm (i := 38) rfl rfl), (okm (i := 427) rfl rfl), ⟨by decide, by decide, by decide +kernel⟩, by decide⟩
set_option maxRecDepth 20000 in
theorem fX7_centres_7 : fk_get mX7_centres 7 7 0 false := ⟨12, RX7, TX7, 7, "", dX7_centres_7, rfl, inX7, by decide, rfl, Or.inl (okm (i := 187) rfl rfl)⟩
set_option maxRecDepth 20000 in
theorem fX7_centres_10 : fk_get mX7_centres 10 6 1 false := ⟨98, RX6, TX6, 2, "FewWays", dX7_centres_10, rfl, inX6, by decide, rfl, Or.inr (fw_nm (i := 69) rfl rfl)⟩
set_option maxRecDepth 20000 in
theorem fX7_centres_37 : fk_get mX7_centres 37 7 5 false := ⟨49, RX7, TX7, 7, "", dX7_centres_37, rfl, inX7, by decide, rfl, Or.inl (okm (i := 192) rfl rfl)⟩
set_option maxRecDepth 20000 in
theorem kX7_centres_51 : fk_V mX7_centres mX0_nearest 51 0 2 := ⟨146, "", TX0, 1, dX7_centres_51, rfl, Or.inl (okm (i := 450) rfl rfl), (okm (i := 451) rfl rfl), (okm (i := 452) rfl rfl), (okm (i := 39) rfl rfl), (okm (i := 453) rfl rfl), ⟨by decide, by decide, by decide +kernel⟩, by decide⟩
set_option maxRecDepth 20000 in
theorem fX7_centres_66 : fk_get mX7_centres 66 7 5 false := ⟨49, RX7, TX7, 7, "", dX7_centres_66, rfl, inX7, by decide, rfl, Or.inl (okm (i := 192) rfl rfl)⟩
set_option maxRecDepth 20000 in
theorem kX7_centres_81 : fk_V mX7_centres mX0_cost 81 0 2 := ⟨150, "", TX0, 1, dX7_centres_81, rfl, Or.inl (okm (i := 467) rfl rfl), (okm (i := 456) rfl rfl), (okm (i := 457) rfl rfl), (okm (i := 39) rfl rfl), (okm (i := 458) rfl rfl), ⟨by decide, by decide, by decide +kernel⟩, by decide⟩
set_option maxRecDepth 20000 in
theorem fX7_number_29 : fk_get mX7_number 29 7 6 false := ⟨56, RX7, TX7, 7, "", dX7_number_29, rfl, inX7, by decide, rfl, Or.inl (okm (i := 193) rfl rfl)⟩
set_option maxRecDepth 20000 in
theorem fX7_number_32 : fk_get mX7_number 32 5 0 false := ⟨153, RX5, TX5, 1, "FewWays", dX7_number_32, rfl, inX5, by decide, rfl, Or.inr (fw_nm (i := 183) rfl rfl)⟩
set_option maxRecDepth 20000 in
theorem fX7_number_39 : fk_get mX7_number 39 7 6 false := ⟨56, RX7, TX7, 7, "", dX7_number_39, rfl, inX7, by decide, rfl, Or.inl (okm (i := 193) rfl rfl)⟩
set_option maxRecDepth 20000 in
theorem fX7_number_42 : fk_get mX7_number 42 5 0 false := ⟨153, RX5, TX5, 1, "FewWays", dX7_number_42, rfl, inX5, by decide, rfl, Or.inr (fw_nm (i := 183) rfl rfl)⟩
set_option maxRecDepth 20000 in
theorem kX7_signs_1 : fk_S mX7_signs mX5_hasLength 1 1 := ⟨156, "", dX7_signs_1, Or.inl (okm (i := 476) rfl rfl), (okm (i := 477) rfl rfl), (okm (i := 40) rfl rfl), (okm (i := 478) rfl rfl), ⟨by decide, by decide, by decide +kernel⟩, by decide⟩
set_option maxRecDepth 20000 in
theorem fX7_signs_21 : fk_get mX7_signs 21 7 6 false := ⟨56, RX7, TX7, 7, "", dX7_signs_21, rfl, inX7, by decide, rfl, Or.inl (okm (i := 193) rfl rfl)⟩
set_option maxRecDepth 20000 in
theorem kX7_signs_26 : fk_V mX7_signs mX5_rowsWithin 26 5 2 := ⟨159, "", TX5, 1, dX7_signs_26, rfl, Or.inl (okm (i := 479) rfl rfl), (okm (i := 480) rfl rfl), (okm (i := 481) rfl rfl), (okm (i := 40) rfl rfl), (okm (i := 482) rfl rfl), ⟨by decide, by decide, by decide +kernel⟩, by decide⟩
set_option maxRecDepth 20000 in
theorem kX7_least_1 : fk_S mX7_least mX5_hasLength 1 1 := ⟨156, "", dX7_least_1, Or.inl (okm (i := 476) rfl rfl), (okm (i := 477) rfl rfl), (okm (i := 40) rfl rfl), (okm (i := 478) rfl rfl), ⟨by decide, by decide, by decide +kernel⟩, by decide⟩
set_option maxRecDepth 20000 in
theorem fX7_least_19 : fk_get mX7_least 19 7 6 false := ⟨56, RX7, TX7, 7, "", dX7_least_19, rfl, inX7, by decide, rfl, Or.inl (okm (i := 193) rfl rfl)⟩
set_option maxRecDepth 20000 in
theorem kX7_least_23 : fk_V mX7_least mX5_smallestRow 23 5 1 := ⟨162, "", TX5, 1, dX7_least_23, rfl, Or.inl (okm (i := 493) rfl rfl), (okm (i := 494) rfl rfl), (okm (i := 495) rfl rfl), (okm (i := 40) rfl rfl), (okm (i := 496) rfl rfl), ⟨by decide, by decide, by decide +kernel⟩, by decide⟩
set_option maxRecDepth 20000 in
theorem fX7_least_36 : fk_get mX7_least 36 7 6 false := ⟨56, RX7, TX7, 7, "", dX7_least_36, rfl, inX7, by decide, rfl, Or.inl (okm (i := 193) rfl rfl)⟩
set_option maxRecDepth 20000 in
theorem kX7_least_41 : fk_V mX7_least mX5_size 41 5 2 := ⟨165, "", TX5, 1, dX7_least_41, rfl, Or.inl (okm (i := 497) rfl rfl), (okm (i := 484) rfl rfl), (okm (i := 485) rfl rfl), (okm (i := 40) rfl rfl), (okm (i := 486) rfl rfl), ⟨by decide, by decide, by decide +kernel⟩, by decide⟩
set_option maxRecDepth 20000 in
theorem fX7_count_1 : fk_get mX7_count 1 7 0 false := ⟨12, RX7, TX7, 7, "", dX7_count_1, rfl, inX7, by decide, rfl, Or.inl (okm (i := 187) rfl rfl)⟩
set_option maxRecDepth 20000 in
theorem fX7_count_4 : fk_get mX7_count 4 6 1 false := ⟨98, RX6, TX6, 2, "FewWays", dX7_count_4, rfl, inX6, by decide, rfl, Or.inr (fw_nm (i := 69) rfl rfl)⟩
set_option maxRecDepth 20000 in
theorem kX7_parts_2 : fk_S mX7_parts mX7_holds 2 2 := ⟨168, "", dX7_parts_2, Or.inl (okm (i := 357) rfl rfl), (okm (i := 310) rfl rfl), (okm (i := 33) rfl rfl), (okm (i := 311) rfl rfl), ⟨by decide, by decide, by decide +kernel⟩, by decide⟩
set_option maxRecDepth 20000 in
theorem kX7_parts_7 : fk_S mX7_parts mX7_holds 7 2 := ⟨168, "", dX7_parts_7, Or.inl (okm (i := 357) rfl rfl), (okm (i := 310) rfl rfl), (okm (i := 33) rfl rfl), (okm (i := 311) rfl rfl), ⟨by decide, by decide, by decide +kernel⟩, by decide⟩
set_option maxRecDepth 20000 in
theorem fX8_init_6 : fk_get mX8_init 6 8 0 true := ⟨7, RX8, TX8, 10, "", dX8_init_6, rfl, inX8, by decide, rfl, Or.inl (okm (i := 512) rfl rfl)⟩
set_option maxRecDepth 20000 in
theorem fX8_init_14 : fk_get mX8_init 14 8 1 true := ⟨13, RX8, TX8, 10, "", dX8_init_14, rfl, inX8, by decide, rfl, Or.inl (okm (i := 513) rfl rfl)⟩
set_option maxRecDepth 20000 in
theorem fX8_init_22 : fk_get mX8_init 22 8 2 true := ⟨17, RX8, TX8, 10, "", dX8_init_22, rfl, inX8, by decide, rfl, Or.inl (okm (i := 514) rfl rfl)⟩
set_option maxRecDepth 20000 in
theorem fX8_init_30 : fk_get mX8_init 30 8 3 true := ⟨20, RX8, TX8, 10, "", dX8_init_30, rfl, inX8, by decide, rfl, Or.inl (okm (i := 515) rfl rfl)⟩
set_option maxRecDepth 20000 in
theorem fX8_init_38 : fk_get mX8_init 38 8 4 true := ⟨23, RX8, TX8, 10, "", dX8_init_38, rfl, inX8, by decide, rfl, Or.inl (okm (i := 516) rfl rfl)⟩
set_option maxRecDepth 20000 in
theorem fX8_init_45 : fk_get mX8_init 45 8 5 true := ⟨26, RX8, TX8, 10, "", dX8_init_45, rfl, inX8, by decide, rfl, Or.inl (okm (i := 517) rfl rfl)⟩
set_option maxRecDepth 20000 in
theorem fX8_init_53 : fk_get mX8_init 53 8 6 true := ⟨29, RX8, TX8, 10, "", dX8_init_53, rfl, inX8, by decide, rfl, Or.inl (okm (i := 518) rfl rfl)⟩
set_option maxRecDepth 20000 in
theorem fX8_init_61 : fk_get mX8_init 61 8 7 true := ⟨33, RX8, TX8, 10, "", dX8_init_61, rfl, inX8, by decide, rfl, Or.inl (okm (i := 519) rfl rfl)⟩
set_option maxRecDepth 20000 in
theorem kX8_init_65 : fk_V mX8_init mX8_fills 65 8 0 := ⟨36, "", TX8, 10, dX8_init_65, rfl, Or.inl (okm (i := 508) rfl rfl), (okm (i := 510) rfl rfl), (okm (i := 17) rfl rfl), (okm (i := 41) rfl rfl), (okm (i := 511) rfl rfl), ⟨by decide, by decide, by decide +kernel⟩, by decide⟩
set_option maxRecDepth 20000 in
theorem fX8_fills_9 : fk_get mX8_fills 9 8 1 false := ⟨13, RX8, TX8, 10, "", dX8_fills_9, rfl, inX8, by decide, rfl, Or.inl (okm (i := 513) rfl rfl)⟩
set_option maxRecDepth 20000 in
theorem fX8_dist_1 : fk_get mX8_dist 1 8 1 false := ⟨13, RX8, TX8, 10, "", dX8_dist_1, rfl, inX8, by decide, rfl, Or.inl (okm (i := 513) rfl rfl)⟩
set_option maxRecDepth 20000 in
theorem kX8_table_4 : fk_S mX8_table mX8_in 4 3 := ⟨39, "", dX8_table_4, Or.inl (okm (i := 547) rfl rfl), (okm (i := 548) rfl rfl), (okm (i := 41) rfl rfl), (okm (i := 549) rfl rfl), ⟨by decide, by decide, by decide +kernel⟩, by decide⟩
set_option maxRecDepth 20000 in
theorem fX8_table_14 : fk_get mX8_table 14 8 0 true := ⟨7, RX8, TX8, 10, "", dX8_table_14, rfl, inX8, by decide, rfl, Or.inl (okm (i := 512) rfl rfl)⟩
set_option maxRecDepth 20000 in
theorem kX8_table_18 : fk_V mX8_table mX8_fills 18 8 0 := ⟨36, "", TX8, 10, dX8_table_18, rfl, Or.inl (okm (i := 508) rfl rfl), (okm (i := 510) rfl rfl), (okm (i := 17) rfl rfl), (okm (i := 41) rfl rfl), (okm (i := 511) rfl rfl), ⟨by decide, by decide, by decide +kernel⟩, by decide⟩
set_option maxRecDepth 20000 in
theorem fX8_table_22 : fk_get mX8_table 22 8 0 false := ⟨7, RX8, TX8, 10, "", dX8_table_22, rfl, inX8, by decide, rfl, Or.inl (okm (i := 512) rfl rfl)⟩
set_option maxRecDepth 20000 in
theorem fX8_isPoint_3 : fk_get mX8_isPoint 3 8 0 false := ⟨7, RX8, TX8, 10, "", dX8_isPoint_3, rfl, inX8, by decide, rfl, Or.inl (okm (i := 512) rfl rfl)⟩
set_option maxRecDepth 20000 in
theorem kX8_isPoint_8 : fk_S mX8_isPoint mX8_in 8 3 := ⟨39, "", dX8_isPoint_8, Or.inl (okm (i := 547) rfl rfl), (okm (i := 548) rfl rfl), (okm (i := 41) rfl rfl), (okm (i := 549) rfl rfl), ⟨by decide, by decide, by decide +kernel⟩, by decide⟩
set_option maxRecDepth 20000 in
theorem kX8_set_2 : fk_V mX8_set mX8_isPoint 2 8 1 := ⟨43, "", TX8, 10, dX8_set_2, rfl, Or.inl (okm (i := 554) rfl rfl), (okm (i := 556) rfl rfl), (okm (i := 18) rfl rfl), (okm (i := 41) rfl rfl), (okm (i := 557) rfl rfl), ⟨by decide, by decide, by decide +kernel⟩, by decide⟩
set_option maxRecDepth 20000 in
theorem kX8_set_10 : fk_V mX8_set mX8_isPoint 10 8 1 := ⟨43, "", TX8, 10, dX8_set_10, rfl, Or.inl (okm (i := 554) rfl rfl), (okm (i := 556) rfl rfl), (okm (i := 18) rfl rfl), (okm (i := 41) rfl rfl), (okm (i := 557) rfl rfl), ⟨by decide, by decide, by decide +kernel⟩, by decide⟩
set_option maxRecDepth 20000 in
theorem kX8_set_25 : fk_S mX8_set mX8_in 25 3 := ⟨39, "", dX8_set_25, Or.inl (okm (i := 547) rfl rfl), (okm (i := 548) rfl rfl), (okm (i := 41) rfl rfl), (okm (i := 549) rfl rfl), ⟨by decide, by decide, by decide +kernel⟩, by decide⟩
set_option maxRecDepth 20000 in
theorem kX8_set_36 : fk_V mX8_set mX8_dist 36 8 2 := ⟨47, "", TX8, 10, dX8_set_36, rfl, Or.inl (okm (i := 558) rfl rfl), (okm (i := 560) rfl rfl), (okm (i := 19) rfl rfl), (okm (i := 41) rfl rfl), (okm (i := 561) rfl rfl), ⟨by decide, by decide, by decide +kernel⟩, by decide⟩
set_option maxRecDepth 20000 in
theorem fX8_set_42 : fk_get mX8_set 42 8 1 false := ⟨13, RX8, TX8, 10, "", dX8_set_42, rfl, inX8, by decide, rfl, Or.inl (okm (i := 513) rfl rfl)⟩
set_option maxRecDepth 20000 in
theorem fX8_set_54 : fk_get mX8_set 54 8 1 false := ⟨13, RX8, TX8, 10, "", dX8_set_54, rfl, inX8, by decide, rfl, Or.inl (okm (i := 513) rfl rfl)⟩
set_option maxRecDepth 20000 in
theorem kX8_at_2 : fk_V mX8_at mX8_isPoint 2 8 1 := ⟨43, "", TX8, 10, dX8_at_2, rfl, Or.inl (okm (i := 554) rfl rfl), (okm (i := 556) rfl rfl), (okm (i := 18) rfl rfl), (okm (i := 41) rfl rfl), (okm (i := 557) rfl rfl), ⟨by decide, by decide, by decide +kernel⟩, by decide⟩
set_option maxRecDepth 20000 in
theorem kX8_at_10 : fk_V mX8_at mX8_isPoint 10 8 1 := ⟨43, "", TX8, 10, dX8_at_10, rfl, Or.inl (okm (i := 554) rfl rfl), (okm (i := 556) rfl rfl), (okm (i := 18) rfl rfl), (okm (i := 41) rfl rfl), (okm (i := 557) rfl rfl), ⟨by decide, by decide, by decide +kernel⟩, by decide⟩
set_option maxRecDepth 20000 in
theorem kX8_at_19 : fk_V mX8_at mX8_dist 19 8 2 := ⟨47, "", TX8, 10, dX8_at_19, rfl, Or.inl (okm (i := 558) rfl rfl), (okm (i := 560) rfl rfl), (okm (i := 19) rfl rfl), (okm (i := 41) rfl rfl), (okm (i := 561) rfl rfl), ⟨by decide, by decide, by decide +kernel⟩, by decide⟩
set_option maxRecDepth 20000 in
theorem kX8_isBroken_30 : fk_V mX8_isBroken mX8_isAbove 30 8 1 := ⟨51, "", TX8, 10, dX8_isBroken_30, rfl, Or.inl (okm (i := 578) rfl rfl), (okm (i := 580) rfl rfl), (okm (i := 22) rfl rfl), (okm (i := 41) rfl rfl), (okm (i := 581) rfl rfl), ⟨by decide, by decide, by decide +kernel⟩, by decide⟩
set_option maxRecDepth 20000 in
theorem fX8_isBroken_68 : fk_get mX8_isBroken 68 8 0 false := ⟨7, RX8, TX8, 10, "", dX8_isBroken_68, rfl, inX8, by decide, rfl, Or.inl (okm (i := 512) rfl rfl)⟩
set_option maxRecDepth 20000 in
theorem kX8_isBroken_78 : fk_V mX8_isBroken mX8_dist 78 8 2 := ⟨47, "", TX8, 10, dX8_isBroken_78, rfl, Or.inl (okm (i := 558) rfl rfl), (okm (i := 560) rfl rfl), (okm (i := 19) rfl rfl), (okm (i := 41) rfl rfl), (okm (i := 561) rfl rfl), ⟨by decide, by decide, by decide +kernel⟩, by decide⟩
set_option maxRecDepth 20000 in
theorem kX8_isBroken_86 : fk_V mX8_isBroken mX8_dist 86 8 2 := ⟨47, "", TX8, 10, dX8_isBroken_86, rfl, Or.inl (okm (i := 558) rfl rfl), (okm (i := 560) rfl rfl), (okm (i := 19) rfl rfl), (okm (i := 41) rfl rfl), (okm (i := 561) rfl rfl), ⟨by decide, by decide, by decide +kernel⟩, by decide⟩
set_option maxRecDepth 20000 in
theorem kX8_isBroken_95 : fk_V mX8_isBroken mX8_dist 95 8 2 := ⟨47, "", TX8, 10, dX8_isBroken_95, rfl, Or.inl (okm (i := 558) rfl rfl), (okm (i := 560) rfl rfl), (okm (i := 19) rfl rfl), (okm (i := 41) rfl rfl), (okm (i := 561) rfl rfl), ⟨by decide, by decide, by decide +kernel⟩, by decide⟩
set_option maxRecDepth 20000 in
theorem kX8_isBroken_102 : fk_V mX8_isBroken mX8_dist 102 8 2 := ⟨47, "", TX8, 10, dX8_isBroken_102, rfl, Or.inl (okm (i := 558) rfl rfl), (okm (i := 560) rfl rfl), (okm (i := 19) rfl rfl), (okm (i := 41) rfl rfl), (okm (i := 561) rfl rfl), ⟨by decide, by decide, by decide +kernel⟩, by decide⟩
set_option maxRecDepth 20000 in
theorem kX8_isBroken_111 : fk_V mX8_isBroken mX8_dist 111 8 2 := ⟨47, "", TX8, 10, dX8_isBroken_111, rfl, Or.inl (okm (i := 558) rfl rfl), (okm (i := 560) rfl rfl), (okm (i := 19) rfl rfl), (okm (i := 41) rfl rfl), (okm (i := 561) rfl rfl), ⟨by decide, by decide, by decide +kernel⟩, by decide⟩
set_option maxRecDepth 20000 in
theorem kX8_isBroken_118 : fk_V mX8_isBroken mX8_dist 118 8 2 := ⟨47, "", TX8, 10, dX8_isBroken_118, rfl, Or.inl (okm (i := 558) rfl rfl), (okm (i := 560) rfl rfl), (okm (i := 19) rfl rfl), (okm (i := 41) rfl rfl), (okm (i := 561) rfl rfl), ⟨by decide, by decide, by decide +kernel⟩, by decide⟩
set_option maxRecDepth 20000 in
theorem kX8_isBroken_122 : fk_S mX8_isBroken mX8_isTwice 122 3 := ⟨54, "", dX8_isBroken_122, Or.inl (okm (i := 582) rfl rfl), (okm (i := 583) rfl rfl), (okm (i := 41) rfl rfl), (okm (i := 584) rfl rfl), ⟨by decide, by decide, by decide +kernel⟩, by decide⟩
set_option maxRecDepth 20000 in
theorem fX8_isBroken_136 : fk_get mX8_isBroken 136 8 0 false := ⟨7, RX8, TX8, 10, "", dX8_isBroken_136, rfl, inX8, by decide, rfl, Or.inl (okm (i := 512) rfl rfl)⟩
set_option maxRecDepth 20000 in
theorem fX8_isBroken_145 : fk_get mX8_isBroken 145 8 0 false := ⟨7, RX8, TX8, 10, "", dX8_isBroken_145, rfl, inX8, by decide, rfl, Or.inl (okm (i := 512) rfl rfl)⟩
set_option maxRecDepth 20000 in
theorem fX8_isBroken_154 : fk_get mX8_isBroken 154 8 0 false := ⟨7, RX8, TX8, 10, "", dX8_isBroken_154, rfl, inX8, by decide, rfl, Or.inl (okm (i := 512) rfl rfl)⟩
set_option maxRecDepth 20000 in
theorem kX8_isBroken_189 : fk_V mX8_isBroken mX8_dist 189 8 2 := ⟨47, "", TX8, 10, dX8_isBroken_189, rfl, Or.inl (okm (i := 558) rfl rfl), (okm (i := 560) rfl rfl), (okm (i := 19) rfl rfl), (okm (i := 41) rfl rfl), (okm (i := 561) rfl rfl), ⟨by decide, by decide, by decide +kernel⟩, by decide⟩
set_option maxRecDepth 20000 in
theorem kX8_isBroken_196 : fk_V mX8_isBroken mX8_dist 196 8 2 := ⟨47, "", TX8, 10, dX8_isBroken_196, rfl, Or.inl (okm (i := 558) rfl rfl), (okm (i := 560) rfl rfl), (okm (i := 19) rfl rfl), (okm (i := 41) rfl rfl), (okm (i := 561) rfl rfl), ⟨by decide, by decide, by decide +kernel⟩, by decide⟩
set_option maxRecDepth 20000 in
theorem kX8_isBroken_204 : fk_V mX8_isBroken mX8_dist 204 8 2 := ⟨47, "", TX8, 10, dX8_isBroken_204, rfl, Or.inl (okm (i := 558) rfl rfl), (okm (i := 560) rfl rfl), (okm (i := 19) rfl rfl), (okm (i := 41) rfl rfl), (okm (i := 561) rfl rfl), ⟨by decide, by decide, by decide +kernel⟩, by decide⟩
set_option maxRecDepth 20000 in
theorem kX8_isBroken_234 : fk_V mX8_isBroken mX8_dist 234 8 2 := ⟨47, "", TX8, 10, dX8_isBroken_234, rfl, Or.inl (okm (i := 558) rfl rfl), (okm (i := 560) rfl rfl), (okm (i := 19) rfl rfl), (okm (i := 41) rfl rfl), (okm (i := 561) rfl rfl), ⟨by decide, by decide, by decide +kernel⟩, by decide⟩
set_option maxRecDepth 20000 in
theorem kX8_isBroken_241 : fk_V mX8_isBroken mX8_dist 241 8 2 := ⟨47, "", TX8, 10, dX8_isBroken_241, rfl, Or.inl (okm (i := 558) rfl rfl), (okm (i := 560) rfl rfl), (okm (i := 19) rfl rfl), (okm (i := 41) rfl rfl), (okm (i := 561) rfl rfl), ⟨by decide, by decide, by decide +kernel⟩, by decide⟩
set_option maxRecDepth 20000 in
theorem kX8_isBroken_249 : fk_V mX8_isBroken mX8_dist 249 8 2 := ⟨47, "", TX8, 10, dX8_isBroken_249, rfl, Or.inl (okm (i := 558) rfl rfl), (okm (i := 560) rfl rfl), (okm (i := 19) rfl rfl), (okm (i := 41) rfl rfl), (okm (i := 561) rfl rfl), ⟨by decide, by decide, by decide +kernel⟩, by decide⟩
set_option maxRecDepth 20000 in
theorem kX8_isBroken_252 : fk_S mX8_isBroken mX8_isTwice 252 3 := ⟨54, "", dX8_isBroken_252, Or.inl (okm (i := 582) rfl rfl), (okm (i := 583) rfl rfl), (okm (i := 41) rfl rfl), (okm (i := 584) rfl rfl), ⟨by decide, by decide, by decide +kernel⟩, by decide⟩
set_option maxRecDepth 20000 in
theorem fX8_isAbove_8 : fk_get mX8_isAbove 8 8 0 false := ⟨7, RX8, TX8, 10, "", dX8_isAbove_8, rfl, inX8, by decide, rfl, Or.inl (okm (i := 512) rfl rfl)⟩
set_option maxRecDepth 20000 in
theorem kX8_isAbove_69 : fk_V mX8_isAbove mX8_dist 69 8 2 := ⟨47, "", TX8, 10, dX8_isAbove_69, rfl, Or.inl (okm (i := 558) rfl rfl), (okm (i := 560) rfl rfl), (okm (i := 19) rfl rfl), (okm (i := 41) rfl rfl), (okm (i := 561) rfl rfl), ⟨by decide, by decide, by decide +kernel⟩, by decide⟩
set_option maxRecDepth 20000 in
theorem fX8_cases_6 : fk_get mX8_cases 6 8 0 false := ⟨7, RX8, TX8, 10, "", dX8_cases_6, rfl, inX8, by decide, rfl, Or.inl (okm (i := 512) rfl rfl)⟩
set_option maxRecDepth 20000 in
theorem kX8_law_3 : fk_S mX8_law mX8_in 3 3 := ⟨39, "", dX8_law_3, Or.inl (okm (i := 547) rfl rfl), (okm (i := 548) rfl rfl), (okm (i := 41) rfl rfl), (okm (i := 549) rfl rfl), ⟨by decide, by decide, by decide +kernel⟩, by decide⟩
set_option maxRecDepth 20000 in
theorem kX8_law_16 : fk_V mX8_law mX8_cases 16 8 1 := ⟨57, "", TX8, 10, dX8_law_16, rfl, Or.inl (okm (i := 570) rfl rfl), (okm (i := 572) rfl rfl), (okm (i := 20) rfl rfl), (okm (i := 41) rfl rfl), (okm (i := 573) rfl rfl), ⟨by decide, by decide, by decide +kernel⟩, by decide⟩
set_option maxRecDepth 20000 in
theorem kX8_law_25 : fk_V mX8_law mX8_isBroken 25 8 2 := ⟨61, "", TX8, 10, dX8_law_25, rfl, Or.inl (okm (i := 574) rfl rfl), (okm (i := 576) rfl rfl), (okm (i := 21) rfl rfl), (okm (i := 41) rfl rfl), (okm (i := 577) rfl rfl), ⟨by decide, by decide, by decide +kernel⟩, by decide⟩
set_option maxRecDepth 20000 in
theorem kX8_breaks_3 : fk_S mX8_breaks mX8_in 3 3 := ⟨39, "", dX8_breaks_3, Or.inl (okm (i := 547) rfl rfl), (okm (i := 548) rfl rfl), (okm (i := 41) rfl rfl), (okm (i := 549) rfl rfl), ⟨by decide, by decide, by decide +kernel⟩, by decide⟩
set_option maxRecDepth 20000 in
theorem kX8_breaks_18 : fk_V mX8_breaks mX8_cases 18 8 1 := ⟨57, "", TX8, 10, dX8_breaks_18, rfl, Or.inl (okm (i := 570) rfl rfl), (okm (i := 572) rfl rfl), (okm (i := 20) rfl rfl), (okm (i := 41) rfl rfl), (okm (i := 573) rfl rfl), ⟨by decide, by decide, by decide +kernel⟩, by decide⟩
set_option maxRecDepth 20000 in
theorem kX8_breaks_28 : fk_V mX8_breaks mX8_isBroken 28 8 2 := ⟨61, "", TX8, 10, dX8_breaks_28, rfl, Or.inl (okm (i := 574) rfl rfl), (okm (i := 576) rfl rfl), (okm (i := 21) rfl rfl), (okm (i := 41) rfl rfl), (okm (i := 577) rfl rfl), ⟨by decide, by decide, by decide +kernel⟩, by decide⟩
set_option maxRecDepth 20000 in
theorem fX8_worth_6 : fk_get mX8_worth 6 8 0 false := ⟨7, RX8, TX8, 10, "", dX8_worth_6, rfl, inX8, by decide, rfl, Or.inl (okm (i := 512) rfl rfl)⟩
set_option maxRecDepth 20000 in
theorem fX8_worth_24 : fk_get mX8_worth 24 8 5 false := ⟨26, RX8, TX8, 10, "", dX8_worth_24, rfl, inX8, by decide, rfl, Or.inl (okm (i := 517) rfl rfl)⟩
set_option maxRecDepth 20000 in
theorem fX8_worth_40 : fk_get mX8_worth 40 8 6 false := ⟨29, RX8, TX8, 10, "", dX8_worth_40, rfl, inX8, by decide, rfl, Or.inl (okm (i := 518) rfl rfl)⟩
set_option maxRecDepth 20000 in
theorem fX8_worth_56 : fk_get mX8_worth 56 8 5 false := ⟨26, RX8, TX8, 10, "", dX8_worth_56, rfl, inX8, by decide, rfl, Or.inl (okm (i := 517) rfl rfl)⟩
set_option maxRecDepth 20000 in
theorem kX8_worth_60 : fk_S mX8_worth mX8_bits 60 1 := ⟨65, "", dX8_worth_60, Or.inl (okm (i := 597) rfl rfl), (okm (i := 598) rfl rfl), (okm (i := 41) rfl rfl), (okm (i := 599) rfl rfl), ⟨by decide, by decide, by decide +kernel⟩, by decide⟩
set_option maxRecDepth 20000 in
theorem fX8_worth_95 : fk_get mX8_worth 95 8 5 false := ⟨26, RX8, TX8, 10, "", dX8_worth_95, rfl, inX8, by decide, rfl, Or.inl (okm (i := 517) rfl rfl)⟩
set_option maxRecDepth 20000 in
theorem kX8_worth_107 : fk_V mX8_worth mX8_dist 107 8 2 := ⟨47, "", TX8, 10, dX8_worth_107, rfl, Or.inl (okm (i := 558) rfl rfl), (okm (i := 560) rfl rfl), (okm (i := 19) rfl rfl), (okm (i := 41) rfl rfl), (okm (i := 561) rfl rfl), ⟨by decide, by decide, by decide +kernel⟩, by decide⟩
set_option maxRecDepth 20000 in
theorem kX8_worth_115 : fk_V mX8_worth mX8_dist 115 8 2 := ⟨47, "", TX8, 10, dX8_worth_115, rfl, Or.inl (okm (i := 558) rfl rfl), (okm (i := 560) rfl rfl), (okm (i := 19) rfl rfl), (okm (i := 41) rfl rfl), (okm (i := 561) rfl rfl), ⟨by decide, by decide, by decide +kernel⟩, by decide⟩
set_option maxRecDepth 20000 in
theorem kX8_worth_124 : fk_V mX8_worth mX8_dist 124 8 2 := ⟨47, "", TX8, 10, dX8_worth_124, rfl, Or.inl (okm (i := 558) rfl rfl), (okm (i := 560) rfl rfl), (okm (i := 19) rfl rfl), (okm (i := 41) rfl rfl), (okm (i := 561) rfl rfl), ⟨by decide, by decide, by decide +kernel⟩, by decide⟩
set_option maxRecDepth 20000 in
theorem kX8_worth_132 : fk_V mX8_worth mX8_dist 132 8 2 := ⟨47, "", TX8, 10, dX8_worth_132, rfl, Or.inl (okm (i := 558) rfl rfl), (okm (i := 560) rfl rfl), (okm (i := 19) rfl rfl), (okm (i := 41) rfl rfl), (okm (i := 561) rfl rfl), ⟨by decide, by decide, by decide +kernel⟩, by decide⟩
set_option maxRecDepth 20000 in
theorem kX8_worth_143 : fk_V mX8_worth mX8_dist 143 8 2 := ⟨47, "", TX8, 10, dX8_worth_143, rfl, Or.inl (okm (i := 558) rfl rfl), (okm (i := 560) rfl rfl), (okm (i := 19) rfl rfl), (okm (i := 41) rfl rfl), (okm (i := 561) rfl rfl), ⟨by decide, by decide, by decide +kernel⟩, by decide⟩
set_option maxRecDepth 20000 in
theorem kX8_worth_152 : fk_V mX8_worth mX8_dist 152 8 2 := ⟨47, "", TX8, 10, dX8_worth_152, rfl, Or.inl (okm (i := 558) rfl rfl), (okm (i := 560) rfl rfl), (okm (i := 19) rfl rfl), (okm (i := 41) rfl rfl), (okm (i := 561) rfl rfl), ⟨by decide, by decide, by decide +kernel⟩, by decide⟩
set_option maxRecDepth 20000 in
theorem fX8_worth_168 : fk_get mX8_worth 168 8 6 false := ⟨29, RX8, TX8, 10, "", dX8_worth_168, rfl, inX8, by decide, rfl, Or.inl (okm (i := 518) rfl rfl)⟩
set_option maxRecDepth 20000 in
theorem fX8_worth_196 : fk_get mX8_worth 196 8 6 false := ⟨29, RX8, TX8, 10, "", dX8_worth_196, rfl, inX8, by decide, rfl, Or.inl (okm (i := 518) rfl rfl)⟩
set_option maxRecDepth 20000 in
theorem fX8_worth_210 : fk_get mX8_worth 210 8 6 false := ⟨29, RX8, TX8, 10, "", dX8_worth_210, rfl, inX8, by decide, rfl, Or.inl (okm (i := 518) rfl rfl)⟩
set_option maxRecDepth 20000 in
theorem fX8_flat_5 : fk_get mX8_flat 5 8 0 false := ⟨7, RX8, TX8, 10, "", dX8_flat_5, rfl, inX8, by decide, rfl, Or.inl (okm (i := 512) rfl rfl)⟩
set_option maxRecDepth 20000 in
theorem kX8_flat_16 : fk_V mX8_flat mX8_worth 16 8 1 := ⟨68, "", TX8, 10, dX8_flat_16, rfl, Or.inl (okm (i := 593) rfl rfl), (okm (i := 595) rfl rfl), (okm (i := 23) rfl rfl), (okm (i := 41) rfl rfl), (okm (i := 596) rfl rfl), ⟨by decide, by decide, by decide +kernel⟩, by decide⟩
set_option maxRecDepth 20000 in
theorem fX8_ways_7 : fk_get mX8_ways 7 8 0 false := ⟨7, RX8, TX8, 10, "", dX8_ways_7, rfl, inX8, by decide, rfl, Or.inl (okm (i := 512) rfl rfl)⟩
set_option maxRecDepth 20000 in
theorem kX8_ways_17 : fk_S mX8_ways mX8_bits 17 1 := ⟨65, "", dX8_ways_17, Or.inl (okm (i := 597) rfl rfl), (okm (i := 598) rfl rfl), (okm (i := 41) rfl rfl), (okm (i := 599) rfl rfl), ⟨by decide, by decide, by decide +kernel⟩, by decide⟩
set_option maxRecDepth 20000 in
theorem kX8_ways_26 : fk_V mX8_ways mX8_worth 26 8 1 := ⟨68, "", TX8, 10, dX8_ways_26, rfl, Or.inl (okm (i := 593) rfl rfl), (okm (i := 595) rfl rfl), (okm (i := 23) rfl rfl), (okm (i := 41) rfl rfl), (okm (i := 596) rfl rfl), ⟨by decide, by decide, by decide +kernel⟩, by decide⟩
set_option maxRecDepth 20000 in
theorem kX8_ways_35 : fk_S mX8_ways mX8_bits 35 1 := ⟨65, "", dX8_ways_35, Or.inl (okm (i := 597) rfl rfl), (okm (i := 598) rfl rfl), (okm (i := 41) rfl rfl), (okm (i := 599) rfl rfl), ⟨by decide, by decide, by decide +kernel⟩, by decide⟩
set_option maxRecDepth 20000 in
theorem fX8_bulk_3 : fk_get mX8_bulk 3 8 0 false := ⟨7, RX8, TX8, 10, "", dX8_bulk_3, rfl, inX8, by decide, rfl, Or.inl (okm (i := 512) rfl rfl)⟩
set_option maxRecDepth 20000 in
theorem kX8_bulk_6 : fk_S mX8_bulk mX8_in 6 3 := ⟨39, "", dX8_bulk_6, Or.inl (okm (i := 547) rfl rfl), (okm (i := 548) rfl rfl), (okm (i := 41) rfl rfl), (okm (i := 549) rfl rfl), ⟨by decide, by decide, by decide +kernel⟩, by decide⟩
set_option maxRecDepth 20000 in
theorem kX8_bulk_20 : fk_V mX8_bulk mX8_worth 20 8 1 := ⟨68, "", TX8, 10, dX8_bulk_20, rfl, Or.inl (okm (i := 593) rfl rfl), (okm (i := 595) rfl rfl), (okm (i := 23) rfl rfl), (okm (i := 41) rfl rfl), (okm (i := 596) rfl rfl), ⟨by decide, by decide, by decide +kernel⟩, by decide⟩
set_option maxRecDepth 20000 in
theorem fX8_isCut_4 : fk_get mX8_isCut 4 8 0 false := ⟨7, RX8, TX8, 10, "", dX8_isCut_4, rfl, inX8, by decide, rfl, Or.inl (okm (i := 512) rfl rfl)⟩
set_option maxRecDepth 20000 in
theorem kX8_isCut_10 : fk_S mX8_isCut mX8_in 10 3 := ⟨39, "", dX8_isCut_10, Or.inl (okm (i := 547) rfl rfl), (okm (i := 548) rfl rfl), (okm (i := 41) rfl rfl), (okm (i := 549) rfl rfl), ⟨by decide, by decide, by decide +kernel⟩, by decide⟩
set_option maxRecDepth 20000 in
theorem kX8_add_2 : fk_V mX8_add mX8_isCut 2 8 1 := ⟨74, "", TX8, 10, dX8_add_2, rfl, Or.inl (okm (i := 613) rfl rfl), (okm (i := 615) rfl rfl), (okm (i := 24) rfl rfl), (okm (i := 41) rfl rfl), (okm (i := 616) rfl rfl), ⟨by decide, by decide, by decide +kernel⟩, by decide⟩
set_option maxRecDepth 20000 in
theorem kX8_add_13 : fk_S mX8_add mX8_in 13 3 := ⟨39, "", dX8_add_13, Or.inl (okm (i := 547) rfl rfl), (okm (i := 548) rfl rfl), (okm (i := 41) rfl rfl), (okm (i := 549) rfl rfl), ⟨by decide, by decide, by decide +kernel⟩, by decide⟩
set_option maxRecDepth 20000 in
theorem fX8_add_25 : fk_get mX8_add 25 8 0 false := ⟨7, RX8, TX8, 10, "", dX8_add_25, rfl, inX8, by decide, rfl, Or.inl (okm (i := 512) rfl rfl)⟩
set_option maxRecDepth 20000 in
theorem fX8_add_37 : fk_get mX8_add 37 8 0 false := ⟨7, RX8, TX8, 10, "", dX8_add_37, rfl, inX8, by decide, rfl, Or.inl (okm (i := 512) rfl rfl)⟩
set_option maxRecDepth 20000 in
theorem kX8_add_47 : fk_S mX8_add mX8_parts 47 3 := ⟨77, "", dX8_add_47, Or.inl (okm (i := 617) rfl rfl), (okm (i := 618) rfl rfl), (okm (i := 41) rfl rfl), (okm (i := 619) rfl rfl), ⟨by decide, by decide, by decide +kernel⟩, by decide⟩
set_option maxRecDepth 20000 in
theorem kX8_add_57 : fk_V mX8_add mX8_dist 57 8 2 := ⟨47, "", TX8, 10, dX8_add_57, rfl, Or.inl (okm (i := 558) rfl rfl), (okm (i := 560) rfl rfl), (okm (i := 19) rfl rfl), (okm (i := 41) rfl rfl), (okm (i := 561) rfl rfl), ⟨by decide, by decide, by decide +kernel⟩, by decide⟩
set_option maxRecDepth 20000 in
theorem kX8_add_65 : fk_S mX8_add mX8_in 65 3 := ⟨39, "", dX8_add_65, Or.inl (okm (i := 547) rfl rfl), (okm (i := 548) rfl rfl), (okm (i := 41) rfl rfl), (okm (i := 549) rfl rfl), ⟨by decide, by decide, by decide +kernel⟩, by decide⟩
set_option maxRecDepth 20000 in
theorem fX8_add_90 : fk_get mX8_add 90 8 0 false := ⟨7, RX8, TX8, 10, "", dX8_add_90, rfl, inX8, by decide, rfl, Or.inl (okm (i := 512) rfl rfl)⟩
set_option maxRecDepth 20000 in
theorem fX8_add_102 : fk_get mX8_add 102 8 0 false := ⟨7, RX8, TX8, 10, "", dX8_add_102, rfl, inX8, by decide, rfl, Or.inl (okm (i := 512) rfl rfl)⟩
set_option maxRecDepth 20000 in
theorem fX8_add_109 : fk_get mX8_add 109 8 1 false := ⟨13, RX8, TX8, 10, "", dX8_add_109, rfl, inX8, by decide, rfl, Or.inl (okm (i := 513) rfl rfl)⟩
set_option maxRecDepth 20000 in
theorem kX8_add_125 : fk_S mX8_add mX8_parts 125 3 := ⟨77, "", dX8_add_125, Or.inl (okm (i := 617) rfl rfl), (okm (i := 618) rfl rfl), (okm (i := 41) rfl rfl), (okm (i := 619) rfl rfl), ⟨by decide, by decide, by decide +kernel⟩, by decide⟩
set_option maxRecDepth 20000 in
theorem fX8_bears_8 : fk_get mX8_bears 8 8 0 false := ⟨7, RX8, TX8, 10, "", dX8_bears_8, rfl, inX8, by decide, rfl, Or.inl (okm (i := 512) rfl rfl)⟩
set_option maxRecDepth 20000 in
theorem fX8_bears_20 : fk_get mX8_bears 20 8 0 false := ⟨7, RX8, TX8, 10, "", dX8_bears_20, rfl, inX8, by decide, rfl, Or.inl (okm (i := 512) rfl rfl)⟩
set_option maxRecDepth 20000 in
theorem fX8_bears_27 : fk_get mX8_bears 27 8 2 false := ⟨17, RX8, TX8, 10, "", dX8_bears_27, rfl, inX8, by decide, rfl, Or.inl (okm (i := 514) rfl rfl)⟩
set_option maxRecDepth 20000 in
theorem kX8_bears_44 : fk_S mX8_bears mX8_parts 44 3 := ⟨77, "", dX8_bears_44, Or.inl (okm (i := 617) rfl rfl), (okm (i := 618) rfl rfl), (okm (i := 41) rfl rfl), (okm (i := 619) rfl rfl), ⟨by decide, by decide, by decide +kernel⟩, by decide⟩
set_option maxRecDepth 20000 in
theorem fX8_bears_69 : fk_get mX8_bears 69 8 0 false := ⟨7, RX8, TX8, 10, "", dX8_bears_69, rfl, inX8, by decide, rfl, Or.inl (okm (i := 512) rfl rfl)⟩
set_option maxRecDepth 20000 in
theorem fX8_bears_76 : fk_get mX8_bears 76 8 2 false := ⟨17, RX8, TX8, 10, "", dX8_bears_76, rfl, inX8, by decide, rfl, Or.inl (okm (i := 514) rfl rfl)⟩
set_option maxRecDepth 20000 in
theorem fX8_bears_88 : fk_get mX8_bears 88 8 2 false := ⟨17, RX8, TX8, 10, "", dX8_bears_88, rfl, inX8, by decide, rfl, Or.inl (okm (i := 514) rfl rfl)⟩
set_option maxRecDepth 20000 in
theorem kX8_bears_117 : fk_S mX8_bears mX8_parts 117 3 := ⟨77, "", dX8_bears_117, Or.inl (okm (i := 617) rfl rfl), (okm (i := 618) rfl rfl), (okm (i := 41) rfl rfl), (okm (i := 619) rfl rfl), ⟨by decide, by decide, by decide +kernel⟩, by decide⟩
set_option maxRecDepth 20000 in
theorem kX8_bears_127 : fk_S mX8_bears mX8_parts 127 3 := ⟨77, "", dX8_bears_127, Or.inl (okm (i := 617) rfl rfl), (okm (i := 618) rfl rfl), (okm (i := 41) rfl rfl), (okm (i := 619) rfl rfl), ⟨by decide, by decide, by decide +kernel⟩, by decide⟩
set_option maxRecDepth 20000 in
theorem fX8_peelAll_9 : fk_get mX8_peelAll 9 8 2 false := ⟨17, RX8, TX8, 10, "", dX8_peelAll_9, rfl, inX8, by decide, rfl, Or.inl (okm (i := 514) rfl rfl)⟩
set_option maxRecDepth 20000 in
theorem fX8_peelAll_15 : fk_get mX8_peelAll 15 8 1 false := ⟨13, RX8, TX8, 10, "", dX8_peelAll_15, rfl, inX8, by decide, rfl, Or.inl (okm (i := 513) rfl rfl)⟩
set_option maxRecDepth 20000 in
theorem fX8_peelAll_33 : fk_get mX8_peelAll 33 8 0 false := ⟨7, RX8, TX8, 10, "", dX8_peelAll_33, rfl, inX8, by decide, rfl, Or.inl (okm (i := 512) rfl rfl)⟩
set_option maxRecDepth 20000 in
theorem kX8_peelAll_42 : fk_V mX8_peelAll mX8_bears 42 8 1 := ⟨80, "", TX8, 10, dX8_peelAll_42, rfl, Or.inl (okm (i := 628) rfl rfl), (okm (i := 630) rfl rfl), (okm (i := 26) rfl rfl), (okm (i := 41) rfl rfl), (okm (i := 631) rfl rfl), ⟨by decide, by decide, by decide +kernel⟩, by decide⟩
set_option maxRecDepth 20000 in
theorem fX8_peelAll_47 : fk_get mX8_peelAll 47 8 3 false := ⟨20, RX8, TX8, 10, "", dX8_peelAll_47, rfl, inX8, by decide, rfl, Or.inl (okm (i := 515) rfl rfl)⟩
set_option maxRecDepth 20000 in
theorem fX8_peelAll_57 : fk_get mX8_peelAll 57 8 0 false := ⟨7, RX8, TX8, 10, "", dX8_peelAll_57, rfl, inX8, by decide, rfl, Or.inl (okm (i := 512) rfl rfl)⟩
set_option maxRecDepth 20000 in
theorem fX8_peelAll_69 : fk_get mX8_peelAll 69 8 0 false := ⟨7, RX8, TX8, 10, "", dX8_peelAll_69, rfl, inX8, by decide, rfl, Or.inl (okm (i := 512) rfl rfl)⟩
set_option maxRecDepth 20000 in
theorem fX8_peelAll_76 : fk_get mX8_peelAll 76 8 2 false := ⟨17, RX8, TX8, 10, "", dX8_peelAll_76, rfl, inX8, by decide, rfl, Or.inl (okm (i := 514) rfl rfl)⟩
set_option maxRecDepth 20000 in
theorem kX8_peelAll_92 : fk_S mX8_peelAll mX8_parts 92 3 := ⟨77, "", dX8_peelAll_92, Or.inl (okm (i := 617) rfl rfl), (okm (i := 618) rfl rfl), (okm (i := 41) rfl rfl), (okm (i := 619) rfl rfl), ⟨by decide, by decide, by decide +kernel⟩, by decide⟩
set_option maxRecDepth 20000 in
theorem kX8_peel_2 : fk_V mX8_peel mX8_isCut 2 8 1 := ⟨74, "", TX8, 10, dX8_peel_2, rfl, Or.inl (okm (i := 613) rfl rfl), (okm (i := 615) rfl rfl), (okm (i := 24) rfl rfl), (okm (i := 41) rfl rfl), (okm (i := 616) rfl rfl), ⟨by decide, by decide, by decide +kernel⟩, by decide⟩
set_option maxRecDepth 20000 in
theorem kX8_peel_11 : fk_V mX8_peel mX8_peelAll 11 8 0 := ⟨83, "", TX8, 10, dX8_peel_11, rfl, Or.inl (okm (i := 624) rfl rfl), (okm (i := 626) rfl rfl), (okm (i := 25) rfl rfl), (okm (i := 41) rfl rfl), (okm (i := 627) rfl rfl), ⟨by decide, by decide, by decide +kernel⟩, by decide⟩
set_option maxRecDepth 20000 in
theorem fX8_peel_15 : fk_get mX8_peel 15 8 3 false := ⟨20, RX8, TX8, 10, "", dX8_peel_15, rfl, inX8, by decide, rfl, Or.inl (okm (i := 515) rfl rfl)⟩
set_option maxRecDepth 20000 in
theorem kX8_left_2 : fk_V mX8_left mX8_isPoint 2 8 1 := ⟨43, "", TX8, 10, dX8_left_2, rfl, Or.inl (okm (i := 554) rfl rfl), (okm (i := 556) rfl rfl), (okm (i := 18) rfl rfl), (okm (i := 41) rfl rfl), (okm (i := 557) rfl rfl), ⟨by decide, by decide, by decide +kernel⟩, by decide⟩
set_option maxRecDepth 20000 in
theorem kX8_left_10 : fk_V mX8_left mX8_isPoint 10 8 1 := ⟨43, "", TX8, 10, dX8_left_10, rfl, Or.inl (okm (i := 554) rfl rfl), (okm (i := 556) rfl rfl), (okm (i := 18) rfl rfl), (okm (i := 41) rfl rfl), (okm (i := 557) rfl rfl), ⟨by decide, by decide, by decide +kernel⟩, by decide⟩
set_option maxRecDepth 20000 in
theorem kX8_left_19 : fk_V mX8_left mX8_peelAll 19 8 0 := ⟨83, "", TX8, 10, dX8_left_19, rfl, Or.inl (okm (i := 624) rfl rfl), (okm (i := 626) rfl rfl), (okm (i := 25) rfl rfl), (okm (i := 41) rfl rfl), (okm (i := 627) rfl rfl), ⟨by decide, by decide, by decide +kernel⟩, by decide⟩
set_option maxRecDepth 20000 in
theorem fX8_left_23 : fk_get mX8_left 23 8 2 false := ⟨17, RX8, TX8, 10, "", dX8_left_23, rfl, inX8, by decide, rfl, Or.inl (okm (i := 514) rfl rfl)⟩
set_option maxRecDepth 20000 in
theorem fX8_isOrder_6 : fk_get mX8_isOrder 6 8 0 false := ⟨7, RX8, TX8, 10, "", dX8_isOrder_6, rfl, inX8, by decide, rfl, Or.inl (okm (i := 512) rfl rfl)⟩
set_option maxRecDepth 20000 in
theorem fX8_isOrder_38 : fk_get mX8_isOrder 38 8 0 false := ⟨7, RX8, TX8, 10, "", dX8_isOrder_38, rfl, inX8, by decide, rfl, Or.inl (okm (i := 512) rfl rfl)⟩
set_option maxRecDepth 20000 in
theorem fX8_isOrder_49 : fk_get mX8_isOrder 49 8 0 false := ⟨7, RX8, TX8, 10, "", dX8_isOrder_49, rfl, inX8, by decide, rfl, Or.inl (okm (i := 512) rfl rfl)⟩
set_option maxRecDepth 20000 in
theorem fX8_lays_4 : fk_get mX8_lays 4 8 0 false := ⟨7, RX8, TX8, 10, "", dX8_lays_4, rfl, inX8, by decide, rfl, Or.inl (okm (i := 512) rfl rfl)⟩
set_option maxRecDepth 20000 in
theorem fX8_lays_20 : fk_get mX8_lays 20 8 7 false := ⟨33, RX8, TX8, 10, "", dX8_lays_20, rfl, inX8, by decide, rfl, Or.inl (okm (i := 519) rfl rfl)⟩
set_option maxRecDepth 20000 in
theorem fX8_lays_47 : fk_get mX8_lays 47 8 7 false := ⟨33, RX8, TX8, 10, "", dX8_lays_47, rfl, inX8, by decide, rfl, Or.inl (okm (i := 519) rfl rfl)⟩
set_option maxRecDepth 20000 in
theorem kX8_lays_57 : fk_V mX8_lays mX8_dist 57 8 2 := ⟨47, "", TX8, 10, dX8_lays_57, rfl, Or.inl (okm (i := 558) rfl rfl), (okm (i := 560) rfl rfl), (okm (i := 19) rfl rfl), (okm (i := 41) rfl rfl), (okm (i := 561) rfl rfl), ⟨by decide, by decide, by decide +kernel⟩, by decide⟩
set_option maxRecDepth 20000 in
theorem fX8_lays_64 : fk_get mX8_lays 64 8 7 false := ⟨33, RX8, TX8, 10, "", dX8_lays_64, rfl, inX8, by decide, rfl, Or.inl (okm (i := 519) rfl rfl)⟩
set_option maxRecDepth 20000 in
theorem fX8_lays_71 : fk_get mX8_lays 71 8 7 false := ⟨33, RX8, TX8, 10, "", dX8_lays_71, rfl, inX8, by decide, rfl, Or.inl (okm (i := 519) rfl rfl)⟩
set_option maxRecDepth 20000 in
theorem fX8_lays_85 : fk_get mX8_lays 85 8 7 false := ⟨33, RX8, TX8, 10, "", dX8_lays_85, rfl, inX8, by decide, rfl, Or.inl (okm (i := 519) rfl rfl)⟩
set_option maxRecDepth 20000 in
theorem fX8_lays_105 : fk_get mX8_lays 105 8 8 true := ⟨86, RX8, TX8, 10, "", dX8_lays_105, rfl, inX8, by decide, rfl, Or.inl (okm (i := 520) rfl rfl)⟩
set_option maxRecDepth 20000 in
theorem fX8_lays_110 : fk_get mX8_lays 110 8 9 true := ⟨89, RX8, TX8, 10, "", dX8_lays_110, rfl, inX8, by decide, rfl, Or.inl (okm (i := 521) rfl rfl)⟩
set_option maxRecDepth 20000 in
theorem fX8_lays_117 : fk_get mX8_lays 117 8 0 false := ⟨7, RX8, TX8, 10, "", dX8_lays_117, rfl, inX8, by decide, rfl, Or.inl (okm (i := 512) rfl rfl)⟩
set_option maxRecDepth 20000 in
theorem fX8_lays_131 : fk_get mX8_lays 131 8 7 false := ⟨33, RX8, TX8, 10, "", dX8_lays_131, rfl, inX8, by decide, rfl, Or.inl (okm (i := 519) rfl rfl)⟩
set_option maxRecDepth 20000 in
theorem fX8_lays_137 : fk_get mX8_lays 137 8 7 false := ⟨33, RX8, TX8, 10, "", dX8_lays_137, rfl, inX8, by decide, rfl, Or.inl (okm (i := 519) rfl rfl)⟩
set_option maxRecDepth 20000 in
theorem kX8_lays_163 : fk_V mX8_lays mX8_dist 163 8 2 := ⟨47, "", TX8, 10, dX8_lays_163, rfl, Or.inl (okm (i := 558) rfl rfl), (okm (i := 560) rfl rfl), (okm (i := 19) rfl rfl), (okm (i := 41) rfl rfl), (okm (i := 561) rfl rfl), ⟨by decide, by decide, by decide +kernel⟩, by decide⟩
set_option maxRecDepth 20000 in
theorem fX8_lays_172 : fk_get mX8_lays 172 8 9 false := ⟨89, RX8, TX8, 10, "", dX8_lays_172, rfl, inX8, by decide, rfl, Or.inl (okm (i := 521) rfl rfl)⟩
set_option maxRecDepth 20000 in
theorem fX8_lays_177 : fk_get mX8_lays 177 8 8 false := ⟨86, RX8, TX8, 10, "", dX8_lays_177, rfl, inX8, by decide, rfl, Or.inl (okm (i := 520) rfl rfl)⟩
set_option maxRecDepth 20000 in
theorem kX8_lays_183 : fk_V mX8_lays mX8_dist 183 8 2 := ⟨47, "", TX8, 10, dX8_lays_183, rfl, Or.inl (okm (i := 558) rfl rfl), (okm (i := 560) rfl rfl), (okm (i := 19) rfl rfl), (okm (i := 41) rfl rfl), (okm (i := 561) rfl rfl), ⟨by decide, by decide, by decide +kernel⟩, by decide⟩
set_option maxRecDepth 20000 in
theorem fX8_lays_193 : fk_get mX8_lays 193 8 8 true := ⟨86, RX8, TX8, 10, "", dX8_lays_193, rfl, inX8, by decide, rfl, Or.inl (okm (i := 520) rfl rfl)⟩
set_option maxRecDepth 20000 in
theorem kX8_lays_200 : fk_V mX8_lays mX8_dist 200 8 2 := ⟨47, "", TX8, 10, dX8_lays_200, rfl, Or.inl (okm (i := 558) rfl rfl), (okm (i := 560) rfl rfl), (okm (i := 19) rfl rfl), (okm (i := 41) rfl rfl), (okm (i := 561) rfl rfl), ⟨by decide, by decide, by decide +kernel⟩, by decide⟩
set_option maxRecDepth 20000 in
theorem fX8_lays_203 : fk_get mX8_lays 203 8 9 true := ⟨89, RX8, TX8, 10, "", dX8_lays_203, rfl, inX8, by decide, rfl, Or.inl (okm (i := 521) rfl rfl)⟩
set_option maxRecDepth 20000 in
theorem fX8_stretch_6 : fk_get mX8_stretch 6 8 8 false := ⟨86, RX8, TX8, 10, "", dX8_stretch_6, rfl, inX8, by decide, rfl, Or.inl (okm (i := 520) rfl rfl)⟩
set_option maxRecDepth 20000 in
theorem fX8_stretch_13 : fk_get mX8_stretch 13 8 9 false := ⟨89, RX8, TX8, 10, "", dX8_stretch_13, rfl, inX8, by decide, rfl, Or.inl (okm (i := 521) rfl rfl)⟩
set_option maxRecDepth 20000 in
theorem fX8_stretch_17 : fk_get mX8_stretch 17 8 8 false := ⟨86, RX8, TX8, 10, "", dX8_stretch_17, rfl, inX8, by decide, rfl, Or.inl (okm (i := 520) rfl rfl)⟩
set_option maxRecDepth 20000 in
theorem fX8_stretch_21 : fk_get mX8_stretch 21 8 9 false := ⟨89, RX8, TX8, 10, "", dX8_stretch_21, rfl, inX8, by decide, rfl, Or.inl (okm (i := 521) rfl rfl)⟩
set_option maxRecDepth 20000 in
theorem kX8_stretch_24 : fk_S mX8_stretch mX8_common 24 2 := ⟨92, "", dX8_stretch_24, Or.inl (okm (i := 652) rfl rfl), (okm (i := 653) rfl rfl), (okm (i := 41) rfl rfl), (okm (i := 654) rfl rfl), ⟨by decide, by decide, by decide +kernel⟩, by decide⟩
set_option maxRecDepth 20000 in
theorem kX8_line_2 : fk_V mX8_line mX8_isOrder 2 8 1 := ⟨95, "", TX8, 10, dX8_line_2, rfl, Or.inl (okm (i := 640) rfl rfl), (okm (i := 642) rfl rfl), (okm (i := 27) rfl rfl), (okm (i := 41) rfl rfl), (okm (i := 643) rfl rfl), ⟨by decide, by decide, by decide +kernel⟩, by decide⟩
set_option maxRecDepth 20000 in
theorem kX8_line_11 : fk_S mX8_line mX8_in 11 3 := ⟨39, "", dX8_line_11, Or.inl (okm (i := 547) rfl rfl), (okm (i := 548) rfl rfl), (okm (i := 41) rfl rfl), (okm (i := 549) rfl rfl), ⟨by decide, by decide, by decide +kernel⟩, by decide⟩
set_option maxRecDepth 20000 in
theorem kX8_line_23 : fk_V mX8_line mX8_isPoint 23 8 1 := ⟨43, "", TX8, 10, dX8_line_23, rfl, Or.inl (okm (i := 554) rfl rfl), (okm (i := 556) rfl rfl), (okm (i := 18) rfl rfl), (okm (i := 41) rfl rfl), (okm (i := 557) rfl rfl), ⟨by decide, by decide, by decide +kernel⟩, by decide⟩
set_option maxRecDepth 20000 in
theorem kX8_line_33 : fk_V mX8_line mX8_lays 33 8 1 := ⟨98, "", TX8, 10, dX8_line_33, rfl, Or.inl (okm (i := 644) rfl rfl), (okm (i := 646) rfl rfl), (okm (i := 28) rfl rfl), (okm (i := 41) rfl rfl), (okm (i := 647) rfl rfl), ⟨by decide, by decide, by decide +kernel⟩, by decide⟩
set_option maxRecDepth 20000 in
theorem fX8_line_41 : fk_get mX8_line 41 8 7 false := ⟨33, RX8, TX8, 10, "", dX8_line_41, rfl, inX8, by decide, rfl, Or.inl (okm (i := 519) rfl rfl)⟩
set_option maxRecDepth 20000 in
theorem kX8_line_51 : fk_V mX8_line mX8_stretch 51 8 1 := ⟨102, "", TX8, 10, dX8_line_51, rfl, Or.inl (okm (i := 648) rfl rfl), (okm (i := 650) rfl rfl), (okm (i := 29) rfl rfl), (okm (i := 41) rfl rfl), (okm (i := 651) rfl rfl), ⟨by decide, by decide, by decide +kernel⟩, by decide⟩
set_option maxRecDepth 20000 in
theorem kX8_best_3 : fk_S mX8_best mX8_in 3 3 := ⟨39, "", dX8_best_3, Or.inl (okm (i := 547) rfl rfl), (okm (i := 548) rfl rfl), (okm (i := 41) rfl rfl), (okm (i := 549) rfl rfl), ⟨by decide, by decide, by decide +kernel⟩, by decide⟩
set_option maxRecDepth 20000 in
theorem fX8_best_26 : fk_get mX8_best 26 8 0 false := ⟨7, RX8, TX8, 10, "", dX8_best_26, rfl, inX8, by decide, rfl, Or.inl (okm (i := 512) rfl rfl)⟩
set_option maxRecDepth 20000 in
theorem kX8_best_37 : fk_V mX8_best mX8_isOrder 37 8 1 := ⟨95, "", TX8, 10, dX8_best_37, rfl, Or.inl (okm (i := 640) rfl rfl), (okm (i := 642) rfl rfl), (okm (i := 27) rfl rfl), (okm (i := 41) rfl rfl), (okm (i := 643) rfl rfl), ⟨by decide, by decide, by decide +kernel⟩, by decide⟩
set_option maxRecDepth 20000 in
theorem kX8_best_46 : fk_V mX8_best mX8_lays 46 8 1 := ⟨98, "", TX8, 10, dX8_best_46, rfl, Or.inl (okm (i := 644) rfl rfl), (okm (i := 646) rfl rfl), (okm (i := 28) rfl rfl), (okm (i := 41) rfl rfl), (okm (i := 647) rfl rfl), ⟨by decide, by decide, by decide +kernel⟩, by decide⟩
set_option maxRecDepth 20000 in
theorem fX8_best_50 : fk_get mX8_best 50 8 8 false := ⟨86, RX8, TX8, 10, "", dX8_best_50, rfl, inX8, by decide, rfl, Or.inl (okm (i := 520) rfl rfl)⟩
set_option maxRecDepth 20000 in
theorem fX8_best_58 : fk_get mX8_best 58 8 9 false := ⟨89, RX8, TX8, 10, "", dX8_best_58, rfl, inX8, by decide, rfl, Or.inl (okm (i := 521) rfl rfl)⟩
set_option maxRecDepth 20000 in
theorem kX8_best_82 : fk_S mX8_best mX8_isLower 82 2 := ⟨105, "", dX8_best_82, Or.inl (okm (i := 659) rfl rfl), (okm (i := 660) rfl rfl), (okm (i := 41) rfl rfl), (okm (i := 661) rfl rfl), ⟨by decide, by decide, by decide +kernel⟩, by decide⟩
set_option maxRecDepth 20000 in
theorem fX8_best_92 : fk_get mX8_best 92 8 8 false := ⟨86, RX8, TX8, 10, "", dX8_best_92, rfl, inX8, by decide, rfl, Or.inl (okm (i := 520) rfl rfl)⟩
set_option maxRecDepth 20000 in
theorem fX8_best_97 : fk_get mX8_best 97 8 9 false := ⟨89, RX8, TX8, 10, "", dX8_best_97, rfl, inX8, by decide, rfl, Or.inl (okm (i := 521) rfl rfl)⟩
set_option maxRecDepth 20000 in
theorem kX8_best_110 : fk_V mX8_best mX8_lays 110 8 1 := ⟨98, "", TX8, 10, dX8_best_110, rfl, Or.inl (okm (i := 644) rfl rfl), (okm (i := 646) rfl rfl), (okm (i := 28) rfl rfl), (okm (i := 41) rfl rfl), (okm (i := 647) rfl rfl), ⟨by decide, by decide, by decide +kernel⟩, by decide⟩
set_option maxRecDepth 20000 in
theorem kX8_best_123 : fk_V mX8_best mX8_stretch 123 8 1 := ⟨102, "", TX8, 10, dX8_best_123, rfl, Or.inl (okm (i := 648) rfl rfl), (okm (i := 650) rfl rfl), (okm (i := 29) rfl rfl), (okm (i := 41) rfl rfl), (okm (i := 651) rfl rfl), ⟨by decide, by decide, by decide +kernel⟩, by decide⟩
set_option maxRecDepth 20000 in
theorem fX8_worthOf_11 : fk_get mX8_worthOf 11 8 0 false := ⟨7, RX8, TX8, 10, "", dX8_worthOf_11, rfl, inX8, by decide, rfl, Or.inl (okm (i := 512) rfl rfl)⟩
set_option maxRecDepth 20000 in
theorem fX8_worthOf_27 : fk_get mX8_worthOf 27 8 0 false := ⟨7, RX8, TX8, 10, "", dX8_worthOf_27, rfl, inX8, by decide, rfl, Or.inl (okm (i := 512) rfl rfl)⟩
set_option maxRecDepth 20000 in
theorem kX8_worthOf_48 : fk_V mX8_worthOf mX8_dist 48 8 2 := ⟨47, "", TX8, 10, dX8_worthOf_48, rfl, Or.inl (okm (i := 558) rfl rfl), (okm (i := 560) rfl rfl), (okm (i := 19) rfl rfl), (okm (i := 41) rfl rfl), (okm (i := 561) rfl rfl), ⟨by decide, by decide, by decide +kernel⟩, by decide⟩
set_option maxRecDepth 20000 in
theorem kX8_worthOf_61 : fk_V mX8_worthOf mX8_dist 61 8 2 := ⟨47, "", TX8, 10, dX8_worthOf_61, rfl, Or.inl (okm (i := 558) rfl rfl), (okm (i := 560) rfl rfl), (okm (i := 19) rfl rfl), (okm (i := 41) rfl rfl), (okm (i := 561) rfl rfl), ⟨by decide, by decide, by decide +kernel⟩, by decide⟩
set_option maxRecDepth 20000 in
theorem fX8_centres_3 : fk_get mX8_centres 3 8 0 false := ⟨7, RX8, TX8, 10, "", dX8_centres_3, rfl, inX8, by decide, rfl, Or.inl (okm (i := 512) rfl rfl)⟩
set_option maxRecDepth 20000 in
theorem kX8_centres_6 : fk_S mX8_centres mX8_in 6 3 := ⟨39, "", dX8_centres_6, Or.inl (okm (i := 547) rfl rfl), (okm (i := 548) rfl rfl), (okm (i := 41) rfl rfl), (okm (i := 549) rfl rfl), ⟨by decide, by decide, by decide +kernel⟩, by decide⟩
set_option maxRecDepth 20000 in
theorem kX8_centres_15 : fk_S mX8_centres mX8_in 15 3 := ⟨39, "", dX8_centres_15, Or.inl (okm (i := 547) rfl rfl), (okm (i := 548) rfl rfl), (okm (i := 41) rfl rfl), (okm (i := 549) rfl rfl), ⟨by decide, by decide, by decide +kernel⟩, by decide⟩
set_option maxRecDepth 20000 in
theorem kX8_centres_24 : fk_S mX8_centres mX8_in 24 3 := ⟨39, "", dX8_centres_24, Or.inl (okm (i := 547) rfl rfl), (okm (i := 548) rfl rfl), (okm (i := 41) rfl rfl), (okm (i := 549) rfl rfl), ⟨by decide, by decide, by decide +kernel⟩, by decide⟩
set_option maxRecDepth 20000 in
theorem fX8_centres_47 : fk_get mX8_centres 47 8 0 false := ⟨7, RX8, TX8, 10, "", dX8_centres_47, rfl, inX8, by decide, rfl, Or.inl (okm (i := 512) rfl rfl)⟩
set_option maxRecDepth 20000 in
theorem kX8_centres_56 : fk_S mX8_centres mX8_bits 56 1 := ⟨65, "", dX8_centres_56, Or.inl (okm (i := 597) rfl rfl), (okm (i := 598) rfl rfl), (okm (i := 41) rfl rfl), (okm (i := 599) rfl rfl), ⟨by decide, by decide, by decide +kernel⟩, by decide⟩
set_option maxRecDepth 20000 in
theorem kX8_centres_67 : fk_V mX8_centres mX8_worthOf 67 8 2 := ⟨108, "", TX8, 10, dX8_centres_67, rfl, Or.inl (okm (i := 666) rfl rfl), (okm (i := 668) rfl rfl), (okm (i := 30) rfl rfl), (okm (i := 41) rfl rfl), (okm (i := 669) rfl rfl), ⟨by decide, by decide, by decide +kernel⟩, by decide⟩
set_option maxRecDepth 20000 in
theorem kX8_centres_79 : fk_V mX8_centres mX8_worthOf 79 8 2 := ⟨108, "", TX8, 10, dX8_centres_79, rfl, Or.inl (okm (i := 666) rfl rfl), (okm (i := 668) rfl rfl), (okm (i := 30) rfl rfl), (okm (i := 41) rfl rfl), (okm (i := 669) rfl rfl), ⟨by decide, by decide, by decide +kernel⟩, by decide⟩
set_option maxRecDepth 20000 in
theorem kX8_number_4 : fk_S mX8_number mX8_in 4 3 := ⟨39, "", dX8_number_4, Or.inl (okm (i := 547) rfl rfl), (okm (i := 548) rfl rfl), (okm (i := 41) rfl rfl), (okm (i := 549) rfl rfl), ⟨by decide, by decide, by decide +kernel⟩, by decide⟩
set_option maxRecDepth 20000 in
theorem kX8_number_17 : fk_S mX8_number mX8_in 17 3 := ⟨39, "", dX8_number_17, Or.inl (okm (i := 547) rfl rfl), (okm (i := 548) rfl rfl), (okm (i := 41) rfl rfl), (okm (i := 549) rfl rfl), ⟨by decide, by decide, by decide +kernel⟩, by decide⟩
set_option maxRecDepth 20000 in
theorem fX8_number_28 : fk_get mX8_number 28 8 4 false := ⟨23, RX8, TX8, 10, "", dX8_number_28, rfl, inX8, by decide, rfl, Or.inl (okm (i := 516) rfl rfl)⟩
set_option maxRecDepth 20000 in
theorem fX8_number_35 : fk_get mX8_number 35 8 4 false := ⟨23, RX8, TX8, 10, "", dX8_number_35, rfl, inX8, by decide, rfl, Or.inl (okm (i := 516) rfl rfl)⟩
set_option maxRecDepth 20000 in
theorem fX8_sumOf_23 : fk_get mX8_sumOf 23 8 4 false := ⟨23, RX8, TX8, 10, "", dX8_sumOf_23, rfl, inX8, by decide, rfl, Or.inl (okm (i := 516) rfl rfl)⟩
set_option maxRecDepth 20000 in
theorem fX8_sumOf_34 : fk_get mX8_sumOf 34 8 4 false := ⟨23, RX8, TX8, 10, "", dX8_sumOf_34, rfl, inX8, by decide, rfl, Or.inl (okm (i := 516) rfl rfl)⟩
set_option maxRecDepth 20000 in
theorem kX8_signs_4 : fk_S mX8_signs mX8_in 4 3 := ⟨39, "", dX8_signs_4, Or.inl (okm (i := 547) rfl rfl), (okm (i := 548) rfl rfl), (okm (i := 41) rfl rfl), (okm (i := 549) rfl rfl), ⟨by decide, by decide, by decide +kernel⟩, by decide⟩
set_option maxRecDepth 20000 in
theorem kX8_signs_15 : fk_S mX8_signs mX8_in 15 3 := ⟨39, "", dX8_signs_15, Or.inl (okm (i := 547) rfl rfl), (okm (i := 548) rfl rfl), (okm (i := 41) rfl rfl), (okm (i := 549) rfl rfl), ⟨by decide, by decide, by decide +kernel⟩, by decide⟩
set_option maxRecDepth 20000 in
theorem kX8_signs_41 : fk_V mX8_signs mX8_sumOf 41 8 2 := ⟨111, "", TX8, 10, dX8_signs_41, rfl, Or.inl (okm (i := 678) rfl rfl), (okm (i := 680) rfl rfl), (okm (i := 31) rfl rfl), (okm (i := 41) rfl rfl), (okm (i := 681) rfl rfl), ⟨by decide, by decide, by decide +kernel⟩, by decide⟩
set_option maxRecDepth 20000 in
theorem kX8_least_4 : fk_S mX8_least mX8_in 4 3 := ⟨39, "", dX8_least_4, Or.inl (okm (i := 547) rfl rfl), (okm (i := 548) rfl rfl), (okm (i := 41) rfl rfl), (okm (i := 549) rfl rfl), ⟨by decide, by decide, by decide +kernel⟩, by decide⟩
set_option maxRecDepth 20000 in
theorem kX8_least_13 : fk_S mX8_least mX8_in 13 3 := ⟨39, "", dX8_least_13, Or.inl (okm (i := 547) rfl rfl), (okm (i := 548) rfl rfl), (okm (i := 41) rfl rfl), (okm (i := 549) rfl rfl), ⟨by decide, by decide, by decide +kernel⟩, by decide⟩
set_option maxRecDepth 20000 in
theorem kX8_least_38 : fk_V mX8_least mX8_sumOf 38 8 2 := ⟨111, "", TX8, 10, dX8_least_38, rfl, Or.inl (okm (i := 678) rfl rfl), (okm (i := 680) rfl rfl), (okm (i := 31) rfl rfl), (okm (i := 41) rfl rfl), (okm (i := 681) rfl rfl), ⟨by decide, by decide, by decide +kernel⟩, by decide⟩
set_option maxRecDepth 20000 in
theorem kX8_least_44 : fk_V mX8_least mX8_sumOf 44 8 2 := ⟨111, "", TX8, 10, dX8_least_44, rfl, Or.inl (okm (i := 678) rfl rfl), (okm (i := 680) rfl rfl), (okm (i := 31) rfl rfl), (okm (i := 41) rfl rfl), (okm (i := 681) rfl rfl), ⟨by decide, by decide, by decide +kernel⟩, by decide⟩
set_option maxRecDepth 20000 in
theorem kX8_least_74 : fk_V mX8_least mX8_sumOf 74 8 2 := ⟨111, "", TX8, 10, dX8_least_74, rfl, Or.inl (okm (i := 678) rfl rfl), (okm (i := 680) rfl rfl), (okm (i := 31) rfl rfl), (okm (i := 41) rfl rfl), (okm (i := 681) rfl rfl), ⟨by decide, by decide, by decide +kernel⟩, by decide⟩
set_option maxRecDepth 20000 in
theorem fX8_count_1 : fk_get mX8_count 1 8 0 false := ⟨7, RX8, TX8, 10, "", dX8_count_1, rfl, inX8, by decide, rfl, Or.inl (okm (i := 512) rfl rfl)⟩
end
section
/-! FewWays's holds and parts, and the Table's methods -/
def b2 (b : Bool) : Int := if b then 1 else 0
theorem b2_0 {b : Bool} : b2 b = 0 ↔ b = false := by cases b <;> simp [b2]
theorem b2_n0 {b : Bool} : b2 b ≠ 0 ↔ b = true := by cases b <;> simp [b2]
theorem b2_r (b : Bool) : 0 ≤ b2 b ∧ b2 b ≤ 1 := by cases b <;> simp [b2]
theorem b2_inj {a b : Bool} : b2 a = b2 b ↔ a = b := by cases a <;> cases b <;> simp [b2]
theorem b2_nar (b : Bool) : narrow .boolean (.int (iI (b2 b))) = .int (iI (b2 b)) := by cases b <;> decide
theorem up_loop (P : Nat → Prop) (n : Nat) (hend : P n) (hstep : ∀ j, j < n → P (j + 1) → P j) : ∀ j, j ≤ n → P j := by
  intro j hj
  obtain ⟨k, rfl⟩ : ∃ k, n = j + k := ⟨n - j, by omega⟩
  clear hj
  induction k generalizing j with
  | zero => exact hend
  | succ k ih => exact hstep j (by omega) (ih (j + 1) (by rw [show j + 1 + k = j + (k + 1) by omega]; exact hend) (fun i hi => hstep i (by omega)))
theorem iI_shr {z : Int} (k : Nat) (hz : 0 ≤ z ∧ z ≤ 2147483647) (hk : k < 31) : iI z >>> (iI k &&& 31) = iI (z / 2 ^ k) := by
  obtain ⟨m, rfl⟩ := Int.eq_ofNat_of_zero_le hz.1
  have e1 : (iI k &&& 31) = nI k := by
    rw [iI_nat]
    have h2 := pk_andN (n := k) (by omega) (m := 31) 5 (by decide)
    rw [h2, Nat.mod_eq_of_lt (by omega)]
  rw [iI_nat, e1]
  have h3 := pk_shrN (n := m) (by omega) (nI k) k (by
    revert hk; clear e1; revert k
    decide +kernel)
  rw [h3, show ((m : Int) / 2 ^ k) = ((m / 2 ^ k : Nat) : Int) by norm_cast, iI_nat]
theorem iI_shl {m : Nat} (k : Nat) (hm : m * 2 ^ k ≤ 2147483647) (hk : k < 31) : iI m <<< (iI k &&& 31) = iI ((m * 2 ^ k : Nat) : Int) := by
  have e1 : (iI k &&& 31) = nI k := by
    rw [iI_nat]
    have h2 := pk_andN (n := k) (by omega) (m := 31) 5 (by decide)
    rw [h2, Nat.mod_eq_of_lt (by omega)]
  rw [iI_nat, e1]
  have h3 := pk_shlN (n := m) (nI k) k (by
    clear hm e1
    revert hk; revert k
    decide +kernel) (by omega)
  rw [h3, iI_nat]
theorem iI_andp {m : Nat} (k : Nat) (hk : k ≤ 30) (hm : m ≤ 2147483647) : iI m &&& iI ((2 ^ k - 1 : Nat) : Int) = iI ((m % 2 ^ k : Nat) : Int) := by
  have hp : 2 ^ k ≤ 2 ^ 30 := Nat.pow_le_pow_right (by decide) hk
  have h1 : 1 ≤ 2 ^ k := Nat.one_le_two_pow
  rw [iI_nat, iI_nat]
  have h2 := pk_andN (n := m) (by omega) (m := nI (2 ^ k - 1)) k (by rw [pk_tn (by omega)])
  rw [h2, iI_nat]
theorem tbit (z k : Nat) : ((z / 2 ^ k % 2 : Nat) : Int) = b2 (z.testBit k) := by
  rw [Nat.testBit_eq_decide_div_mod_eq]
  rcases Nat.mod_two_eq_zero_or_one (z / 2 ^ k) with h | h <;> simp [b2, h]
theorem c_holds (d z k : Nat) (w : fw_S) (hz : z ≤ 2147483647) (hk : k < 31) : fw_K d mX7_holds [.int (iI z), .int (iI k)] w (some (.int (iI (b2 (z.testBit k))))) w := by
  refine fw_K.of (by decide) (Nat.le_of_ble_eq_true rfl) (by simp [Value.category]) (rfl) ?_
  show fw_R _ _ 0 [some (.int (iI z)), some (.int (iI k))] [] _ _ _
  refine fr_iload_n dX7_holds_0 rfl ?_
  refine fr_iload_n dX7_holds_1 rfl ?_
  refine fr_ishr ((z : Int) / 2 ^ k) dX7_holds_2 (iI_shr k (by omega) hk) ?_
  refine fr_iconst dX7_holds_3 ?_
  have e0 : ((z : Int) / 2 ^ k) = ((z / 2 ^ k : Nat) : Int) := by norm_cast
  have e1 : z / 2 ^ k ≤ z := Nat.div_le_self _ _
  rw [e0]
  refine fr_iand (b2 (z.testBit k)) dX7_holds_4 ?_ ?_
  · rw [← tbit]; exact iI_andp 1 (by decide) (by omega)
  refine fr_iconst dX7_holds_5 ?_
  have h01 := b2_r (z.testBit k)
  refine fr_icmp_ne (tgt := 13) dX7_holds_6 (by decide) (by omega) (by omega) (fun c => ?_) (fun c => ?_)
  · refine fr_iconst dX7_holds_13 ?_
    exact fr_zret dX7_holds_14 rfl (by decide) (by rw [show b2 (z.testBit k) = 0 by omega]) rfl
  · refine fr_iconst dX7_holds_9 ?_
    refine fr_goto (tgt := 14) dX7_holds_10 (by decide) ?_
    exact fr_zret dX7_holds_14 rfl (by decide) (by rw [c]) rfl
def pt (z i j : Nat) : Bool := z.testBit i != z.testBit j
theorem c_parts (d z i j : Nat) (w : fw_S) (hd : 1 ≤ d) (hz : z ≤ 2147483647) (hi : i < 31) (hj : j < 31) : fw_K d mX7_parts [.int (iI z), .int (iI i), .int (iI j)] w (some (.int (iI (b2 (pt z i j))))) w := by
  refine fw_K.of (by decide) (Nat.le_of_ble_eq_true rfl) (by simp [Value.category]) (rfl) ?_
  show fw_R _ _ 0 [some (.int (iI z)), some (.int (iI i)), some (.int (iI j))] [] _ _ _
  have r1 := b2_r (z.testBit i)
  have r2 := b2_r (z.testBit j)
  refine fr_iload_n dX7_parts_0 rfl ?_
  refine fr_iload_n dX7_parts_1 rfl ?_
  refine fr_callS kX7_parts_2 (c_holds 0 z i w hz hi) (by omega) rfl rfl rfl ?_
  dsimp only [List.set, Option.toList, List.cons_append, List.nil_append]
  refine fr_iload_n dX7_parts_5 rfl ?_
  refine fr_iload_n dX7_parts_6 rfl ?_
  refine fr_callS kX7_parts_7 (c_holds 0 z j w hz hj) (by omega) rfl rfl rfl ?_
  dsimp only [List.set, Option.toList, List.cons_append, List.nil_append]
  refine fr_icmp_eq (tgt := 17) dX7_parts_10 (by decide) (by omega) (by omega) (fun c => ?_) (fun c => ?_)
  · refine fr_iconst dX7_parts_17 ?_
    exact fr_zret dX7_parts_18 rfl (by decide) (by rw [show pt z i j = false by unfold pt; rw [b2_inj.mp c]; simp]; rfl) rfl
  · refine fr_iconst dX7_parts_13 ?_
    refine fr_goto (tgt := 18) dX7_parts_14 (by decide) ?_
    exact fr_zret dX7_parts_18 rfl (by decide) (by rw [show pt z i j = true by unfold pt; simpa using fun h => c (by rw [h])]; rfl) rfl
/-- o is a Table of n points whose distances are D, its cells at a -/
def tb (w : fw_S) (o a n : Nat) (D : Nat → Nat → Int) : Prop := fw_g w o (.inl (6, [.ref a, .int (iI n)])) ∧ (∃ f, fw_g w a (.inr (36, .inl f)) ∧ ∀ i j, i < n → j < n → f (6 * i + j) = D i j) ∧ 2 ≤ n ∧ n ≤ 6
theorem c_between {d o a n : Nat} {D : Nat → Nat → Int} {w : fw_S} (h : tb w o a n D) {i j : Nat} (hi : i < n) (hj : j < n) : fw_K d mX6_between [.ref o, .int (iI i), .int (iI j)] w (some (.int (iI (D i j)))) w := by
  obtain ⟨h1, ⟨f, h2, h3⟩, h4, h5⟩ := h
  refine fw_K.of (by decide) (Nat.le_of_ble_eq_true rfl) (by simp [Value.category]) (rfl) ?_
  show fw_R _ _ 0 [some (.ref o), some (.int (iI i)), some (.int (iI j))] [] _ _ _
  refine fr_aload_n dX6_between_0 rfl ?_
  refine fr_get fX6_between_1 h1 rfl ?_
  refine fr_iload_n dX6_between_4 rfl ?_
  refine fr_bipush dX6_between_5 (by decide) ?_
  refine fr_imul dX6_between_7 ?_
  refine fr_iload_n dX6_between_8 rfl ?_
  refine fr_iadd dX6_between_9 ?_
  refine fr_iald (6 * i + j) dX6_between_10 h2 (by omega) (by omega) (by decide) ?_
  rw [h3 i j hi hj]
  exact fr_iret dX6_between_11 rfl (rfl) (rfl)
theorem c_hasPoint {d o a n : Nat} {D : Nat → Nat → Int} {w : fw_S} (h : tb w o a n D) {i : Int} (hi : -2147483648 ≤ i ∧ i ≤ 2147483647) : fw_K d mX6_hasPoint [.ref o, .int (iI i)] w (some (.int (iI (b2 (decide (0 ≤ i ∧ i < n)))))) w := by
  obtain ⟨h1, ⟨f, h2, h3⟩, h4, h5⟩ := h
  refine fw_K.of (by decide) (Nat.le_of_ble_eq_true rfl) (by simp [Value.category]) (rfl) ?_
  show fw_R _ _ 0 [some (.ref o), some (.int (iI i))] [] _ _ _
  refine fr_iload_n dX6_hasPoint_0 rfl ?_
  refine fr_if_lt (tgt := 16) dX6_hasPoint_1 (by decide) (by omega) (fun c => ?_) (fun c => ?_)
  · refine fr_iconst dX6_hasPoint_16 ?_
    exact fr_zret dX6_hasPoint_17 rfl (by decide) (by rw [show decide (0 ≤ i ∧ i < (n : Int)) = false by simp; omega]; rfl) (rfl)
  · refine fr_iload_n dX6_hasPoint_4 rfl ?_
    refine fr_aload_n dX6_hasPoint_5 rfl ?_
    refine fr_get fX6_hasPoint_6 h1 rfl ?_
    refine fr_icmp_ge (tgt := 16) dX6_hasPoint_9 (by decide) (by omega) (by omega) (fun c2 => ?_) (fun c2 => ?_)
    · refine fr_iconst dX6_hasPoint_16 ?_
      exact fr_zret dX6_hasPoint_17 rfl (by decide) (by rw [show decide (0 ≤ i ∧ i < (n : Int)) = false by simp; omega]; rfl) (rfl)
    · refine fr_iconst dX6_hasPoint_12 ?_
      refine fr_goto (tgt := 17) dX6_hasPoint_13 (by decide) ?_
      exact fr_zret dX6_hasPoint_17 rfl (by decide) (by rw [show decide (0 ≤ i ∧ i < (n : Int)) = true by simp; omega]; rfl) (rfl)
theorem c_hasPair {d o a n : Nat} {D : Nat → Nat → Int} {w : fw_S} (hd : 1 ≤ d) (h : tb w o a n D) {i j : Int} (hi : -2147483648 ≤ i ∧ i ≤ 2147483647) (hj : -2147483648 ≤ j ∧ j ≤ 2147483647) : fw_K d mX6_hasPair [.ref o, .int (iI i), .int (iI j)] w (some (.int (iI (b2 (decide ((0 ≤ i ∧ i < n) ∧ (0 ≤ j ∧ j < n))))))) w := by
  have h1 := h.1
  refine fw_K.of (by decide) (Nat.le_of_ble_eq_true rfl) (by simp [Value.category]) (rfl) ?_
  show fw_R _ _ 0 [some (.ref o), some (.int (iI i)), some (.int (iI j))] [] _ _ _
  have r1 := b2_r (decide (0 ≤ i ∧ i < (n : Int)))
  have r2 := b2_r (decide (0 ≤ j ∧ j < (n : Int)))
  refine fr_aload_n dX6_hasPair_0 rfl ?_
  refine fr_iload_n dX6_hasPair_1 rfl ?_
  refine fr_callV kX6_hasPair_2 (c_hasPoint (d := 0) h hi) (by omega) h1 rfl rfl rfl ?_
  dsimp only [List.set, Option.toList, List.cons_append, List.nil_append]
  refine fr_if_eq (tgt := 20) dX6_hasPair_5 (by decide) (by omega) (fun c => ?_) (fun c => ?_)
  · have c' := b2_0.mp c
    refine fr_iconst dX6_hasPair_20 ?_
    exact fr_zret dX6_hasPair_21 rfl (by decide) (by rw [show decide ((0 ≤ i ∧ i < (n : Int)) ∧ (0 ≤ j ∧ j < (n : Int))) = false by simp only [decide_eq_false_iff_not] at c' ⊢; omega]; rfl) (rfl)
  · have c' := b2_n0.mp c
    refine fr_aload_n dX6_hasPair_8 rfl ?_
    refine fr_iload_n dX6_hasPair_9 rfl ?_
    refine fr_callV kX6_hasPair_10 (c_hasPoint (d := 0) h hj) (by omega) h1 rfl rfl rfl ?_
    dsimp only [List.set, Option.toList, List.cons_append, List.nil_append]
    refine fr_if_eq (tgt := 20) dX6_hasPair_13 (by decide) (by omega) (fun e => ?_) (fun e => ?_)
    · have e' := b2_0.mp e
      refine fr_iconst dX6_hasPair_20 ?_
      exact fr_zret dX6_hasPair_21 rfl (by decide) (by rw [show decide ((0 ≤ i ∧ i < (n : Int)) ∧ (0 ≤ j ∧ j < (n : Int))) = false by simp only [decide_eq_false_iff_not, decide_eq_true_eq] at c' e' ⊢; omega]; rfl) (rfl)
    · have e' := b2_n0.mp e
      refine fr_iconst dX6_hasPair_16 ?_
      refine fr_goto (tgt := 21) dX6_hasPair_17 (by decide) ?_
      exact fr_zret dX6_hasPair_21 rfl (by decide) (by rw [show decide ((0 ≤ i ∧ i < (n : Int)) ∧ (0 ≤ j ∧ j < (n : Int))) = true by simp only [decide_eq_true_eq] at c' e' ⊢; omega]; rfl) (rfl)
end
section
/-! the Table's writes, and its looks at cuts -/
def kp (w w' : fw_S) (X : Nat → Prop) : Prop := w'.1 = w.1 ∧ ∀ k, ¬ X k → w'.2 k = w.2 k
theorem kp.g {w w' : fw_S} {X : Nat → Prop} (h : kp w w' X) {k : Nat} {e : fw_E} (hk : ¬ X k) (hg : fw_g w k e) : fw_g w' k e := ⟨by rw [h.1]; exact hg.1, (h.2 k hk).trans hg.2⟩
theorem kp.rf {w : fw_S} {X : Nat → Prop} : kp w w X := ⟨rfl, fun _ _ => rfl⟩
theorem kp.trans {w w1 w2 : fw_S} {X : Nat → Prop} (h : kp w w1 X) (h2 : kp w1 w2 X) : kp w w2 X := ⟨h2.1.trans h.1, fun k hk => (h2.2 k hk).trans (h.2 k hk)⟩
theorem kp.mono {w w' : fw_S} {X Y : Nat → Prop} (h : kp w w' X) (hXY : ∀ k, X k → Y k) : kp w w' Y := ⟨h.1, fun k hk => h.2 k (fun q => hk (hXY k q))⟩
theorem kp.up (w : fw_S) (k : Nat) (e : fw_E) : kp w (fw_up w k e) (fun j => j = k) := ⟨rfl, fun _ hj => fw_up_ne w e hj⟩
theorem lpE {σ : Type} {M : fw_M} {d pcH : Nat} (n : Nat) (L : Nat → σ → List (Option Value)) (I : Nat → σ → fw_S → Prop)
    (hstep : ∀ (j : Nat) (x : σ) (w : fw_S), j < n → I j x w → ∃ (x1 : σ) (w1 : fw_S), I (j + 1) x1 w1 ∧ ∀ (r : Option Value) (w' : fw_S), fw_R M d pcH (L (j + 1) x1) [] w1 r w' → fw_R M d pcH (L j x) [] w r w') :
    ∀ (j : Nat) (x : σ) (w : fw_S), j ≤ n → I j x w → ∃ (xE : σ) (wE : fw_S), I n xE wE ∧ ∀ (r : Option Value) (w' : fw_S), fw_R M d pcH (L n xE) [] wE r w' → fw_R M d pcH (L j x) [] w r w' := by
  intro j x w hj hI
  obtain ⟨k, rfl⟩ : ∃ k, n = j + k := ⟨n - j, by omega⟩
  clear hj
  induction k generalizing j x w with
  | zero => exact ⟨x, w, hI, fun _ _ h => h⟩
  | succ k ih =>
    obtain ⟨x1, w1, h1, h2⟩ := hstep j x w (by omega) hI
    rw [show j + (k + 1) = j + 1 + k by omega] at hstep ⊢
    obtain ⟨xE, wE, h3, h4⟩ := ih (j + 1) x1 w1 h1 hstep
    exact ⟨xE, wE, h3, fun r w' h => h2 r w' (h4 r w' h)⟩
theorem tb.kp {w w' : fw_S} {X : Nat → Prop} {o a n : Nat} {D : Nat → Nat → Int} (h : tb w o a n D) (hk : kp w w' X) (ho : ¬ X o) (ha : ¬ X a) : tb w' o a n D := by
  obtain ⟨h1, ⟨f, h2, h3⟩, h4⟩ := h
  exact ⟨hk.g ho h1, ⟨f, hk.g ha h2, h3⟩, h4⟩
theorem tb.ne {w : fw_S} {o a n : Nat} {D : Nat → Nat → Int} (h : tb w o a n D) : o ≠ a := by
  obtain ⟨h1, ⟨f, h2, h3⟩, h4⟩ := h
  exact h1.oa h2
theorem tb.congr {w : fw_S} {o a n : Nat} {D D' : Nat → Nat → Int} (h : tb w o a n D) (hD : ∀ i j, i < n → j < n → D i j = D' i j) : tb w o a n D' := by
  obtain ⟨h1, ⟨f, h2, h3⟩, h4⟩ := h
  exact ⟨h1, ⟨f, h2, fun i j hi hj => (h3 i j hi hj).trans (hD i j hi hj)⟩, h4⟩
def D1 : Nat → Nat → Int := fun i j => if i = j then 0 else 1
/-- a new table, all of whose distances are 1 -/
theorem c_reset {d o a n : Nat} {x : Int32} {f0 : Nat → Int} {w : fw_S} (h1 : fw_g w o (.inl (6, [.ref a, .int x]))) (h2 : fw_g w a (.inr (36, .inl f0))) (hn : 2 ≤ n ∧ n ≤ 6) : ∃ w', fw_K d mX6_reset [.ref o, .int (iI n)] w none w' ∧ tb w' o a n D1 ∧ kp w w' (fun k => k = o ∨ k = a) := by
  have hoa := h1.oa h2
  have outer := lpE (M := mX6_reset) (d := d) (pcH := 7) n (fun i _ => [some (.ref o), some (.int (iI n)), some (.int (iI i)), none]) (fun i (_ : Unit) v => fw_g v o (.inl (6, [.ref a, .int (iI n)])) ∧ (∃ f, fw_g v a (.inr (36, .inl f)) ∧ ∀ p q, p < i → q < n → f (6 * p + q) = D1 p q) ∧ kp w v (fun k => k = o ∨ k = a)) (by
    intro i _ v hi ⟨g1, ⟨f, g2, g3⟩, g4⟩
    have inner := lpE (M := mX6_reset) (d := d) (pcH := 14) n (fun j _ => [some (.ref o), some (.int (iI n)), some (.int (iI i)), some (.int (iI j))]) (fun j (_ : Unit) v => fw_g v o (.inl (6, [.ref a, .int (iI n)])) ∧ (∃ f, fw_g v a (.inr (36, .inl f)) ∧ ∀ p q, (p < i ∧ q < n ∨ p = i ∧ q < j) → f (6 * p + q) = D1 p q) ∧ kp w v (fun k => k = o ∨ k = a)) (by
      intro j _ v hj ⟨g1, ⟨f, g2, g3⟩, g4⟩
      refine ⟨(), fw_up v a (.inr (36, .inl (fw_u f (6 * i + j) (D1 i j)))), ⟨g1.ne _ hoa, ⟨_, g2.up _, ?_⟩, g4.trans ((kp.up v a _).mono (fun k hk => Or.inr hk))⟩, ?_⟩
      · intro p q hpq
        by_cases he : 6 * p + q = 6 * i + j
        · rw [he, fw_u_self]; have : p = i ∧ q = j := by omega
          rw [this.1, this.2]
        · rw [fw_u_ne _ _ he]; exact g3 p q (by omega)
      · intro r w' k
        refine fr_iload_n dX6_reset_14 rfl ?_
        refine fr_iload_n dX6_reset_15 rfl ?_
        refine fr_icmp_ge (tgt := 46) dX6_reset_16 (by decide) (by omega) (by omega) (fun c => ?_) (fun c => ?_)
        · omega
        refine fr_aload_n dX6_reset_19 rfl ?_
        refine fr_get fX6_reset_20 g1 rfl ?_
        refine fr_iload_n dX6_reset_23 rfl ?_
        refine fr_bipush dX6_reset_24 (by decide) ?_
        refine fr_imul dX6_reset_26 ?_
        refine fr_iload_n dX6_reset_27 rfl ?_
        refine fr_iadd dX6_reset_28 ?_
        refine fr_iload_n dX6_reset_29 rfl ?_
        refine fr_iload_n dX6_reset_30 rfl ?_
        refine fr_icmp_ne (tgt := 38) dX6_reset_31 (by decide) (by omega) (by omega) (fun c2 => ?_) (fun c2 => ?_)
        · refine fr_iconst dX6_reset_38 ?_
          rw [show (1 : Int) = D1 i j by unfold D1; rw [if_neg (by omega)]]
          refine fr_iast (6 * i + j) dX6_reset_39 g2 (by omega) (by omega) (by decide) ?_
          refine fr_iinc dX6_reset_40 rfl (by decide) rfl rfl ?_
          dsimp only [List.set, Option.toList, List.cons_append, List.nil_append]
          refine fr_goto (tgt := 14) dX6_reset_43 (by decide) ?_
          exact k
        · refine fr_iconst dX6_reset_34 ?_
          refine fr_goto (tgt := 39) dX6_reset_35 (by decide) ?_
          rw [show (0 : Int) = D1 i j by unfold D1; rw [if_pos (by omega)]]
          refine fr_iast (6 * i + j) dX6_reset_39 g2 (by omega) (by omega) (by decide) ?_
          refine fr_iinc dX6_reset_40 rfl (by decide) rfl rfl ?_
          dsimp only [List.set, Option.toList, List.cons_append, List.nil_append]
          refine fr_goto (tgt := 14) dX6_reset_43 (by decide) ?_
          exact k)
    obtain ⟨_, wE, hE, hr⟩ := inner 0 () v (Nat.zero_le _) ⟨g1, ⟨f, g2, fun p q hpq => g3 p q (by omega) (by omega)⟩, g4⟩
    obtain ⟨e1, ⟨fE, e2, e3⟩, e4⟩ := hE
    refine ⟨(), wE, ⟨e1, ⟨fE, e2, fun p q hp hq => e3 p q (by omega)⟩, e4⟩, ?_⟩
    intro r w' k
    refine fr_iload_n dX6_reset_7 rfl ?_
    refine fr_iload_n dX6_reset_8 rfl ?_
    refine fr_icmp_ge (tgt := 52) dX6_reset_9 (by decide) (by omega) (by omega) (fun c => ?_) (fun c => ?_)
    · omega
    refine fr_iconst dX6_reset_12 ?_
    refine fr_istore_n dX6_reset_13 rfl (by decide) rfl rfl ?_
    dsimp only [List.set, Option.toList, List.cons_append, List.nil_append]
    refine hr r w' ?_
    refine fr_iload_n dX6_reset_14 rfl ?_
    refine fr_iload_n dX6_reset_15 rfl ?_
    refine fr_icmp_ge (tgt := 46) dX6_reset_16 (by decide) (by omega) (by omega) (fun c => ?_) (fun c => ?_)
    · refine fr_iinc dX6_reset_46 rfl (by decide) rfl rfl ?_
      dsimp only [List.set, Option.toList, List.cons_append, List.nil_append]
      refine fr_goto (tgt := 7) dX6_reset_49 (by decide) ?_
      exact k.wk (by simp [fw_le])
    · omega)
  obtain ⟨_, wE, ⟨e1, ⟨fE, e2, e3⟩, e4⟩, hr⟩ := outer 0 () (fw_up w o (.inl (6, [.ref a, .int (iI n)]))) (Nat.zero_le _) ⟨h1.up _, ⟨f0, h2.ne _ (Ne.symm hoa), fun p q hp => absurd hp (Nat.not_lt_zero p)⟩, (kp.up w o _).mono (fun k hk => Or.inl hk)⟩
  refine ⟨wE, ?_, ⟨e1, ⟨fE, e2, fun i j hi hj => e3 i j hi hj⟩, hn⟩, e4⟩
  refine fw_K.of (by decide) (Nat.le_of_ble_eq_true rfl) (by simp [Value.category]) (e4.1) ?_
  show fw_R _ _ 0 [some (.ref o), some (.int (iI n)), none, none] [] _ _ _
  refine fr_aload_n dX6_reset_0 rfl ?_
  refine fr_iload_n dX6_reset_1 rfl ?_
  refine fr_put fX6_reset_2 pfX6_1 h1 (by simp) rfl ?_
  dsimp only [List.set, Option.toList, List.cons_append, List.nil_append]
  refine fr_iconst dX6_reset_5 ?_
  refine fr_istore_n dX6_reset_6 rfl (by decide) rfl rfl ?_
  dsimp only [List.set, Option.toList, List.cons_append, List.nil_append]
  refine hr _ _ ?_
  refine fr_iload_n dX6_reset_7 rfl ?_
  refine fr_iload_n dX6_reset_8 rfl ?_
  refine fr_icmp_ge (tgt := 52) dX6_reset_9 (by decide) (by omega) (by omega) (fun c => ?_) (fun c => ?_)
  · exact fr_vret dX6_reset_52 rfl rfl (rfl)
  · omega
def setD (D : Nat → Nat → Int) (i j : Nat) (v : Int) : Nat → Nat → Int := fun x y => if (x = i ∧ y = j) ∨ (x = j ∧ y = i) then v else D x y
theorem c_put {d o a n : Nat} {D : Nat → Nat → Int} {w : fw_S} (h : tb w o a n D) {i j : Nat} (hi : i < n) (hj : j < n) (v : Int) : ∃ w', fw_K d mX6_put [.ref o, .int (iI i), .int (iI j), .int (iI v)] w none w' ∧ tb w' o a n (setD D i j v) ∧ kp w w' (fun k => k = a) := by
  have hoa := h.ne
  obtain ⟨h1, ⟨f, h2, h3⟩, h4, h5⟩ := h
  refine ⟨fw_up (fw_up w a (.inr (36, .inl (fw_u f (6 * i + j) v)))) a (.inr (36, .inl (fw_u (fw_u f (6 * i + j) v) (6 * j + i) v))), ?_, ⟨(h1.ne _ hoa).ne _ hoa, ⟨_, (h2.up _).up _, ?_⟩, h4, h5⟩, (kp.up _ _ _).trans (kp.up _ _ _)⟩
  · refine fw_K.of (by decide) (Nat.le_of_ble_eq_true rfl) (by simp [Value.category]) (rfl) ?_
    show fw_R _ _ 0 [some (.ref o), some (.int (iI i)), some (.int (iI j)), some (.int (iI v))] [] _ _ _
    refine fr_aload_n dX6_put_0 rfl ?_
    refine fr_get fX6_put_1 h1 rfl ?_
    refine fr_iload_n dX6_put_4 rfl ?_
    refine fr_bipush dX6_put_5 (by decide) ?_
    refine fr_imul dX6_put_7 ?_
    refine fr_iload_n dX6_put_8 rfl ?_
    refine fr_iadd dX6_put_9 ?_
    refine fr_iload_n dX6_put_10 rfl ?_
    refine fr_iast (6 * i + j) dX6_put_11 h2 (by omega) (by omega) (by decide) ?_
    refine fr_aload_n dX6_put_12 rfl ?_
    refine fr_get fX6_put_13 (h1.ne _ hoa) rfl ?_
    refine fr_iload_n dX6_put_16 rfl ?_
    refine fr_bipush dX6_put_17 (by decide) ?_
    refine fr_imul dX6_put_19 ?_
    refine fr_iload_n dX6_put_20 rfl ?_
    refine fr_iadd dX6_put_21 ?_
    refine fr_iload_n dX6_put_22 rfl ?_
    refine fr_iast (6 * j + i) dX6_put_23 (h2.up _) (by omega) (by omega) (by decide) ?_
    exact fr_vret dX6_put_24 rfl rfl (rfl)
  · intro p q hp hq
    unfold setD
    by_cases e1 : 6 * p + q = 6 * j + i
    · rw [e1, fw_u_self, if_pos (by omega)]
    · rw [fw_u_ne _ _ e1]
      by_cases e2 : 6 * p + q = 6 * i + j
      · rw [e2, fw_u_self, if_pos (by omega)]
      · rw [fw_u_ne _ _ e2, if_neg (by omega)]; exact h3 p q hp hq
end
section
/-! the Table's copy, and cuts -/
theorem c_copyDoubled {d o a o2 a2 n : Nat} {D : Nat → Nat → Int} {x : Int32} {f0 : Nat → Int} {w : fw_S} (h1 : fw_g w o (.inl (6, [.ref a, .int x]))) (h2 : fw_g w a (.inr (36, .inl f0))) (h : tb w o2 a2 n D) (ho : o2 ≠ o) (ha : a2 ≠ a) : ∃ w', fw_K d mX6_copyDoubled [.ref o, .ref o2] w none w' ∧ tb w' o a n (fun i j => 2 * D i j) ∧ kp w w' (fun k => k = o ∨ k = a) := by
  have hoa := h1.oa h2
  obtain ⟨u1, ⟨f, u2, u3⟩, hn⟩ := h
  have hoa2 := u1.oa h2
  have hao2 := h1.oa u2
  have lp := lpE (M := mX6_copyDoubled) (d := d) (pcH := 10) 36 (fun i _ => [some (.ref o), some (.ref o2), some (.int (iI i))]) (fun i (_ : Unit) v => fw_g v o (.inl (6, [.ref a, .int (iI n)])) ∧ fw_g v o2 (.inl (6, [.ref a2, .int (iI n)])) ∧ fw_g v a2 (.inr (36, .inl f)) ∧ (∃ g, fw_g v a (.inr (36, .inl g)) ∧ ∀ p, p < i → g p = 2 * f p) ∧ kp w v (fun k => k = o ∨ k = a)) (by
    intro i _ v hi ⟨g1, g2, g3, ⟨g, g4, g5⟩, g6⟩
    refine ⟨(), fw_up v a (.inr (36, .inl (fw_u g i (2 * f i)))), ⟨g1.ne _ hoa, g2.ne _ hoa2, g3.ne _ ha, ⟨_, g4.up _, ?_⟩, g6.trans ((kp.up v a _).mono (fun k hk => Or.inr hk))⟩, ?_⟩
    · intro p hp
      by_cases he : p = i
      · rw [he, fw_u_self]
      · rw [fw_u_ne _ _ he]; exact g5 p (by omega)
    · intro r w' k
      refine fr_iload_n dX6_copyDoubled_10 rfl ?_
      refine fr_aload_n dX6_copyDoubled_11 rfl ?_
      refine fr_get fX6_copyDoubled_12 g1 rfl ?_
      refine fr_alen dX6_copyDoubled_15 g4 ?_
      refine fr_icmp_ge (tgt := 39) dX6_copyDoubled_16 (by decide) (by omega) (by omega) (fun c => ?_) (fun c => ?_)
      · omega
      refine fr_aload_n dX6_copyDoubled_19 rfl ?_
      refine fr_get fX6_copyDoubled_20 g1 rfl ?_
      refine fr_iload_n dX6_copyDoubled_23 rfl ?_
      refine fr_iconst dX6_copyDoubled_24 ?_
      refine fr_aload_n dX6_copyDoubled_25 rfl ?_
      refine fr_get fX6_copyDoubled_26 g2 rfl ?_
      refine fr_iload_n dX6_copyDoubled_29 rfl ?_
      refine fr_iald (i) dX6_copyDoubled_30 g3 (by omega) (by omega) (by decide) ?_
      refine fr_imul dX6_copyDoubled_31 ?_
      refine fr_iast (i) dX6_copyDoubled_32 g4 (by omega) (by omega) (by decide) ?_
      refine fr_iinc dX6_copyDoubled_33 rfl (by decide) rfl rfl ?_
      dsimp only [List.set, Option.toList, List.cons_append, List.nil_append]
      refine fr_goto (tgt := 10) dX6_copyDoubled_36 (by decide) ?_
      exact k)
  obtain ⟨_, wE, ⟨e1, e2, e3, ⟨g, e4, e5⟩, e6⟩, hr⟩ := lp 0 () (fw_up w o (.inl (6, [.ref a, .int (iI n)]))) (Nat.zero_le _) ⟨h1.up _, u1.ne _ ho, u2.ne _ (Ne.symm hao2), ⟨f0, h2.ne _ (Ne.symm hoa), fun p hp => absurd hp (Nat.not_lt_zero p)⟩, (kp.up w o _).mono (fun k hk => Or.inl hk)⟩
  refine ⟨wE, ?_, ⟨e1, ⟨g, e4, fun i j hi hj => ?_⟩, hn⟩, e6⟩
  · refine fw_K.of (by decide) (Nat.le_of_ble_eq_true rfl) (by simp [Value.category]) (e6.1) ?_
    show fw_R _ _ 0 [some (.ref o), some (.ref o2), none] [] _ _ _
    refine fr_aload_n dX6_copyDoubled_0 rfl ?_
    refine fr_aload_n dX6_copyDoubled_1 rfl ?_
    refine fr_get fX6_copyDoubled_2 u1 rfl ?_
    refine fr_put fX6_copyDoubled_5 pfX6_1 h1 (by simp) rfl ?_
    dsimp only [List.set, Option.toList, List.cons_append, List.nil_append]
    refine fr_iconst dX6_copyDoubled_8 ?_
    refine fr_istore_n dX6_copyDoubled_9 rfl (by decide) rfl rfl ?_
    dsimp only [List.set, Option.toList, List.cons_append, List.nil_append]
    refine hr _ _ ?_
    refine fr_iload_n dX6_copyDoubled_10 rfl ?_
    refine fr_aload_n dX6_copyDoubled_11 rfl ?_
    refine fr_get fX6_copyDoubled_12 e1 rfl ?_
    refine fr_alen dX6_copyDoubled_15 e4 ?_
    refine fr_icmp_ge (tgt := 39) dX6_copyDoubled_16 (by decide) (by omega) (by omega) (fun c => ?_) (fun c => ?_)
    · exact fr_vret dX6_copyDoubled_39 rfl rfl (rfl)
    · omega
  · rw [e5 _ (by omega), u3 i j hi hj]
def isCut (n : Nat) (cut : Int) : Bool := decide (0 < cut ∧ cut < ((2 ^ n : Nat) : Int) ∧ cut % 2 = 0)
theorem p2_le {n : Nat} (h : n ≤ 6) : 2 ^ n ≤ 64 := Nat.pow_le_pow_right (n := 2) (by decide) h
theorem c_hasCut {d o a n : Nat} {D : Nat → Nat → Int} {w : fw_S} (hd : 1 ≤ d) (h : tb w o a n D) {cut : Int} (hc : -2147483648 ≤ cut ∧ cut ≤ 2147483647) : fw_K d mX6_hasCut [.ref o, .int (iI cut)] w (some (.int (iI (b2 (isCut n cut))))) w := by
  obtain ⟨h1, ⟨f, h2, h3⟩, h4, h5⟩ := h
  have hp := p2_le h5
  have hsh := iI_shl (m := 1) n (by omega) (by omega)
  rw [Nat.one_mul] at hsh
  unfold isCut
  generalize 2 ^ n = P at hp hsh ⊢
  refine fw_K.of (by decide) (Nat.le_of_ble_eq_true rfl) (by simp [Value.category]) (rfl) ?_
  show fw_R _ _ 0 [some (.ref o), some (.int (iI cut))] [] _ _ _
  refine fr_iload_n dX6_hasCut_0 rfl ?_
  refine fr_if_le (tgt := 26) dX6_hasCut_1 (by decide) (by omega) (fun c => ?_) (fun c => ?_)
  · refine fr_iconst dX6_hasCut_26 ?_
    exact fr_zret dX6_hasCut_27 rfl (by decide) (by rw [show decide (0 < cut ∧ cut < (P : Int) ∧ cut % 2 = 0) = false by simp only [decide_eq_false_iff_not]; omega]; rfl) (rfl)
  · obtain ⟨m, rfl⟩ := Int.eq_ofNat_of_zero_le (show 0 ≤ cut by omega)
    refine fr_iload_n dX6_hasCut_4 rfl ?_
    refine fr_iconst dX6_hasCut_5 ?_
    refine fr_aload_n dX6_hasCut_6 rfl ?_
    refine fr_get fX6_hasCut_7 h1 rfl ?_
    refine fr_ishl ((P : Int)) dX6_hasCut_10 (hsh) ?_
    refine fr_icmp_ge (tgt := 26) dX6_hasCut_11 (by decide) (by omega) (by omega) (fun c2 => ?_) (fun c2 => ?_)
    · refine fr_iconst dX6_hasCut_26 ?_
      exact fr_zret dX6_hasCut_27 rfl (by decide) (by rw [show decide (0 < (m : Int) ∧ (m : Int) < (P : Int) ∧ (m : Int) % 2 = 0) = false by simp only [decide_eq_false_iff_not]; omega]; rfl) (rfl)
    · have r1 := b2_r (m.testBit 0)
      refine fr_iload_n dX6_hasCut_14 rfl ?_
      refine fr_iconst dX6_hasCut_15 ?_
      refine fr_callS kX6_hasCut_16 (c_holds 0 m 0 w (by omega) (by omega)) (by omega) rfl rfl rfl ?_
      dsimp only [List.set, Option.toList, List.cons_append, List.nil_append]
      refine fr_if_ne (tgt := 26) dX6_hasCut_19 (by decide) (by omega) (fun c3 => ?_) (fun c3 => ?_)
      · have c4 := b2_n0.mp c3
        rw [Nat.testBit_zero, decide_eq_true_eq] at c4
        refine fr_iconst dX6_hasCut_26 ?_
        exact fr_zret dX6_hasCut_27 rfl (by decide) (by rw [show decide (0 < (m : Int) ∧ (m : Int) < (P : Int) ∧ (m : Int) % 2 = 0) = false by simp only [decide_eq_false_iff_not]; omega]; rfl) (rfl)
      · have c4 := b2_0.mp c3
        rw [Nat.testBit_zero, decide_eq_false_iff_not] at c4
        refine fr_iconst dX6_hasCut_22 ?_
        refine fr_goto (tgt := 27) dX6_hasCut_23 (by decide) ?_
        exact fr_zret dX6_hasCut_27 rfl (by decide) (by rw [show decide (0 < (m : Int) ∧ (m : Int) < (P : Int) ∧ (m : Int) % 2 = 0) = true by simp only [decide_eq_true_eq]; omega]; rfl) (rfl)
/-- whether each distance bears a cut t times -/
def bearsP (n : Nat) (D : Nat → Nat → Int) (cut : Nat) (t : Int) : Prop := ∀ i, i < n → ∀ j, j < n → i < j → pt cut i j = true → 0 ≤ D i j + t ∧ D i j + t ≤ 30
def okR (n : Nat) (D : Nat → Nat → Int) (hi : Int) : Prop := ∀ i j, i < n → j < n → 0 ≤ D i j ∧ D i j ≤ hi
theorem c_bearsCut {d o a n cut : Nat} {D : Nat → Nat → Int} {w : fw_S} (hd : 2 ≤ d) (h : tb w o a n D) (hD : okR n D 60) (hc : cut < 64) {t : Int} (ht : -100 ≤ t ∧ t ≤ 100) (b : Bool) (hb : b = true ↔ bearsP n D cut t) : fw_K d mX6_bearsCut [.ref o, .int (iI cut), .int (iI t)] w (some (.int (iI (b2 b)))) w := by
  have h1 := h.1
  have hn := h.2.2
  have inner : ∀ i, i < n → (∀ j, j < n → i < j → pt cut i j = true → 0 ≤ D i j + t ∧ D i j + t ≤ 30 → True) → fw_R mX6_bearsCut d 65 [some (.ref o), some (.int (iI cut)), some (.int (iI t)), some (.int (iI i)), none, none] [] w (some (.int (iI (b2 b)))) w → True := fun _ _ _ _ => trivial
  clear inner
  have outer := up_loop (fun i => (∀ i' j', i' < i → j' < n → i' < j' → pt cut i' j' = true → 0 ≤ D i' j' + t ∧ D i' j' + t ≤ 30) → fw_R mX6_bearsCut d 2 [some (.ref o), some (.int (iI cut)), some (.int (iI t)), some (.int (iI i)), none, none] [] w (some (.int (iI (b2 b)))) w) n (by
    intro hall
    refine fr_iload_n dX6_bearsCut_2 rfl ?_
    refine fr_aload_n dX6_bearsCut_3 rfl ?_
    refine fr_get fX6_bearsCut_4 h1 rfl ?_
    refine fr_icmp_ge (tgt := 71) dX6_bearsCut_7 (by decide) (by omega) (by omega) (fun c => ?_) (fun c => ?_)
    · refine fr_iconst dX6_bearsCut_71 ?_
      have : b = true := hb.mpr (fun i hi j hj hij hp => hall i j hi hj hij hp)
      subst this
      exact fr_zret dX6_bearsCut_72 rfl (by decide) (rfl) (rfl)
    · omega) (by
    intro i hi ih hall
    have inner := up_loop (fun j => i < j → (∀ j', j' < j → i < j' → pt cut i j' = true → 0 ≤ D i j' + t ∧ D i j' + t ≤ 30) → fw_R mX6_bearsCut d 15 [some (.ref o), some (.int (iI cut)), some (.int (iI t)), some (.int (iI i)), some (.int (iI j)), none] [] w (some (.int (iI (b2 b)))) w) n (by
      intro hij hall2
      refine fr_iload dX6_bearsCut_15 rfl ?_
      refine fr_aload_n dX6_bearsCut_17 rfl ?_
      refine fr_get fX6_bearsCut_18 h1 rfl ?_
      refine fr_icmp_ge (tgt := 65) dX6_bearsCut_21 (by decide) (by omega) (by omega) (fun c => ?_) (fun c => ?_)
      · refine fr_iinc dX6_bearsCut_65 rfl (by decide) rfl rfl ?_
        dsimp only [List.set, Option.toList, List.cons_append, List.nil_append]
        refine fr_goto (tgt := 2) dX6_bearsCut_68 (by decide) ?_
        refine (ih (fun i' j' hi' hj' hij' hp => ?_)).wk (by simp [fw_le])
        by_cases he : i' = i
        · subst he; exact hall2 j' hj' hij' hp
        · exact hall i' j' (by omega) hj' hij' hp
      · omega) (by
      intro j hj ihj hij hall2
      have hDij := hD i j hi hj
      have r1 := b2_r (pt cut i j)
      have stay : (pt cut i j = true → 0 ≤ D i j + t ∧ D i j + t ≤ 30) → fw_R mX6_bearsCut d 59 [some (.ref o), some (.int (iI cut)), some (.int (iI t)), some (.int (iI i)), some (.int (iI j)), some (.int (iI (D i j + t)))] [] w (some (.int (iI (b2 b)))) w := by
        intro hok
        refine fr_iinc dX6_bearsCut_59 rfl (by decide) rfl rfl ?_
        dsimp only [List.set, Option.toList, List.cons_append, List.nil_append]
        refine fr_goto (tgt := 15) dX6_bearsCut_62 (by decide) ?_
        refine (ihj (by omega) (fun j' hj' hij' hp => ?_)).wk (by simp [fw_le])
        by_cases he : j' = j
        · subst he; exact hok hp
        · exact hall2 j' (by omega) hij' hp
      have bad : pt cut i j = true → ¬ (0 ≤ D i j + t ∧ D i j + t ≤ 30) → b = false := by
        intro hp hno
        cases hbb : b with
        | false => rfl
        | true => exact absurd (hb.mp hbb i hi j hj hij hp) hno
      refine fr_iload dX6_bearsCut_15 rfl ?_
      refine fr_aload_n dX6_bearsCut_17 rfl ?_
      refine fr_get fX6_bearsCut_18 h1 rfl ?_
      refine fr_icmp_ge (tgt := 65) dX6_bearsCut_21 (by decide) (by omega) (by omega) (fun c => ?_) (fun c => ?_)
      · omega
      refine fr_aload_n dX6_bearsCut_24 rfl ?_
      refine fr_iload_n dX6_bearsCut_25 rfl ?_
      refine fr_iload dX6_bearsCut_26 rfl ?_
      refine fr_callV kX6_bearsCut_28 (c_between (d := 0) h hi hj) (by omega) h1 rfl rfl rfl ?_
      dsimp only [List.set, Option.toList, List.cons_append, List.nil_append]
      refine fr_iload_n dX6_bearsCut_31 rfl ?_
      refine fr_iadd dX6_bearsCut_32 ?_
      refine fr_istore dX6_bearsCut_33 (by decide) rfl rfl ?_
      dsimp only [List.set, Option.toList, List.cons_append, List.nil_append]
      refine fr_iload_n dX6_bearsCut_35 rfl ?_
      refine fr_iload_n dX6_bearsCut_36 rfl ?_
      refine fr_iload dX6_bearsCut_37 rfl ?_
      refine fr_callS kX6_bearsCut_39 (c_parts 1 cut i j w (by omega) (by omega) (by omega) (by omega)) (by omega) rfl rfl rfl ?_
      dsimp only [List.set, Option.toList, List.cons_append, List.nil_append]
      refine fr_if_eq (tgt := 59) dX6_bearsCut_42 (by decide) (by omega) (fun c2 => ?_) (fun c2 => ?_)
      · have c2' := b2_0.mp c2
        exact stay (fun hp => by rw [c2'] at hp; cases hp)
      · have c2' := b2_n0.mp c2
        refine fr_iload dX6_bearsCut_45 rfl ?_
        refine fr_if_lt (tgt := 57) dX6_bearsCut_47 (by decide) (by omega) (fun c3 => ?_) (fun c3 => ?_)
        · refine fr_iconst dX6_bearsCut_57 ?_
          rw [bad c2' (by omega)]
          exact fr_zret dX6_bearsCut_58 rfl (by decide) (rfl) (rfl)
        · refine fr_iload dX6_bearsCut_50 rfl ?_
          refine fr_bipush dX6_bearsCut_52 (by decide) ?_
          refine fr_icmp_le (tgt := 59) dX6_bearsCut_54 (by decide) (by omega) (by omega) (fun c4 => ?_) (fun c4 => ?_)
          · exact stay (fun _ => ⟨by omega, by omega⟩)
          · refine fr_iconst dX6_bearsCut_57 ?_
            rw [bad c2' (by omega)]
            exact fr_zret dX6_bearsCut_58 rfl (by decide) (rfl) (rfl))
    refine fr_iload_n dX6_bearsCut_2 rfl ?_
    refine fr_aload_n dX6_bearsCut_3 rfl ?_
    refine fr_get fX6_bearsCut_4 h1 rfl ?_
    refine fr_icmp_ge (tgt := 71) dX6_bearsCut_7 (by decide) (by omega) (by omega) (fun c => ?_) (fun c => ?_)
    · omega
    refine fr_iload_n dX6_bearsCut_10 rfl ?_
    refine fr_iconst dX6_bearsCut_11 ?_
    refine fr_iadd dX6_bearsCut_12 ?_
    refine fr_istore dX6_bearsCut_13 (by decide) rfl rfl ?_
    dsimp only [List.set, Option.toList, List.cons_append, List.nil_append]
    exact inner (i + 1) (by omega) (by omega) (fun j' hj' hij' => absurd hij' (by omega)))
  refine fw_K.of (by decide) (Nat.le_of_ble_eq_true rfl) (by simp [Value.category]) (rfl) ?_
  show fw_R _ _ 0 [some (.ref o), some (.int (iI cut)), some (.int (iI t)), none, none, none] [] _ _ _
  refine fr_iconst dX6_bearsCut_0 ?_
  refine fr_istore_n dX6_bearsCut_1 rfl (by decide) rfl rfl ?_
  dsimp only [List.set, Option.toList, List.cons_append, List.nil_append]
  exact outer 0 (Nat.zero_le _) (fun i' j' hi' => absurd hi' (Nat.not_lt_zero _))
/-- a cut put in t times -/
def cutD (D : Nat → Nat → Int) (cut : Nat) (t : Int) : Nat → Nat → Int := fun x y => if pt cut x y = true then D x y + t else D x y
theorem pt_symm (cut i j : Nat) : pt cut i j = pt cut j i := by unfold pt; cases cut.testBit i <;> cases cut.testBit j <;> rfl
theorem pt_self (cut i : Nat) : pt cut i i = false := by unfold pt; cases cut.testBit i <;> rfl
def sym (n : Nat) (D : Nat → Nat → Int) : Prop := ∀ i j, i < n → j < n → D i j = D j i
theorem c_putCut {d o a n cut : Nat} {D : Nat → Nat → Int} {w : fw_S} (hd : 2 ≤ d) (h : tb w o a n D) (hs : sym n D) (hc : cut < 64) (t : Int) : ∃ w', fw_K d mX6_putCut [.ref o, .int (iI cut), .int (iI t)] w none w' ∧ tb w' o a n (cutD D cut t) ∧ kp w w' (fun k => k = a) := by
  have h1 := h.1
  have hn := h.2.2
  have hoa := h.ne
  have outer := lpE (M := mX6_putCut) (d := d) (pcH := 2) n (fun i _ => [some (.ref o), some (.int (iI cut)), some (.int (iI t)), some (.int (iI i)), none]) (fun i (_ : Unit) v => tb v o a n (fun x y => if pt cut x y = true ∧ (x < i ∨ y < i) then D x y + t else D x y) ∧ kp w v (fun k => k = a)) (by
    intro i _ v hi ⟨g1, g2⟩
    have inner := lpE (M := mX6_putCut) (d := d) (pcH := 15) n (fun j _ => [some (.ref o), some (.int (iI cut)), some (.int (iI t)), some (.int (iI i)), some (.int (iI j))]) (fun j (_ : Unit) v => i < j ∧ tb v o a n (fun x y => if pt cut x y = true ∧ (x < i ∨ y < i ∨ (x = i ∧ y < j) ∨ (y = i ∧ x < j)) then D x y + t else D x y) ∧ kp w v (fun k => k = a)) (by
      intro j _ v hj ⟨hij, g1, g2⟩
      cases hp : pt cut i j with
      | true =>
        obtain ⟨w1, k1, k2, k3⟩ := c_put (d := d - 1) g1 hi hj (D i j + t)
        refine ⟨(), w1, ⟨by omega, k2.congr (fun x y hx hy => ?_), g2.trans k3⟩, ?_⟩
        · unfold setD
          try dsimp only
          by_cases e : (x = i ∧ y = j) ∨ (x = j ∧ y = i)
          · rw [if_pos e]
            rcases e with ⟨rfl, rfl⟩ | ⟨rfl, rfl⟩
            · rw [if_pos ⟨hp, by omega⟩]
            · rw [if_pos ⟨by rw [pt_symm]; exact hp, by omega⟩, hs _ _ hx hy]
          · rw [if_neg e]
            by_cases hq : pt cut x y = true
            · by_cases h7 : (x < i ∨ y < i ∨ (x = i ∧ y < j) ∨ (y = i ∧ x < j))
              · rw [if_pos ⟨hq, h7⟩, if_pos ⟨hq, by omega⟩]
              · rw [if_neg (fun z => h7 z.2), if_neg (fun z => h7 (by have := z.2; omega))]
            · rw [if_neg (fun z => hq z.1), if_neg (fun z => hq z.1)]
        · intro r w' k
          have g11 := g1.1
          refine fr_iload dX6_putCut_15 rfl ?_
          refine fr_aload_n dX6_putCut_17 rfl ?_
          refine fr_get fX6_putCut_18 g11 rfl ?_
          refine fr_icmp_ge (tgt := 56) dX6_putCut_21 (by decide) (by omega) (by omega) (fun c => ?_) (fun c => ?_)
          · omega
          refine fr_iload_n dX6_putCut_24 rfl ?_
          refine fr_iload_n dX6_putCut_25 rfl ?_
          refine fr_iload dX6_putCut_26 rfl ?_
          refine fr_callS kX6_putCut_28 (c_parts (d - 1) cut i j v (by omega) (by omega) (by omega) (by omega)) (by omega) rfl rfl rfl ?_
          dsimp only [List.set, Option.toList, List.cons_append, List.nil_append]
          rw [hp]
          refine fr_if_eq (tgt := 50) dX6_putCut_31 (by decide) (by decide) (fun c2 => ?_) (fun c2 => ?_)
          · exact absurd c2 (by decide)
          have hb := c_between (d := d - 1) g1 hi hj
          rw [if_neg (by omega)] at hb
          refine fr_aload_n dX6_putCut_34 rfl ?_
          refine fr_iload_n dX6_putCut_35 rfl ?_
          refine fr_iload dX6_putCut_36 rfl ?_
          refine fr_aload_n dX6_putCut_38 rfl ?_
          refine fr_iload_n dX6_putCut_39 rfl ?_
          refine fr_iload dX6_putCut_40 rfl ?_
          refine fr_callV kX6_putCut_42 (hb) (by omega) g11 rfl rfl rfl ?_
          dsimp only [List.set, Option.toList, List.cons_append, List.nil_append]
          refine fr_iload_n dX6_putCut_45 rfl ?_
          refine fr_iadd dX6_putCut_46 ?_
          refine fr_callV kX6_putCut_47 (k1) (by omega) g11 rfl rfl rfl ?_
          dsimp only [List.set, Option.toList, List.cons_append, List.nil_append]
          refine fr_iinc dX6_putCut_50 rfl (by decide) rfl rfl ?_
          dsimp only [List.set, Option.toList, List.cons_append, List.nil_append]
          refine fr_goto (tgt := 15) dX6_putCut_53 (by decide) ?_
          exact k
      | false =>
        refine ⟨(), v, ⟨by omega, g1.congr (fun x y hx hy => ?_), g2⟩, ?_⟩
        · try dsimp only
          by_cases hq : pt cut x y = true
          · by_cases h7 : (x < i ∨ y < i ∨ (x = i ∧ y < j) ∨ (y = i ∧ x < j))
            · rw [if_pos ⟨hq, h7⟩, if_pos ⟨hq, by omega⟩]
            · have h8 : ¬ (x < i ∨ y < i ∨ (x = i ∧ y < j + 1) ∨ (y = i ∧ x < j + 1)) := by
                intro z
                have : (x = i ∧ y = j) ∨ (x = j ∧ y = i) := by omega
                rcases this with ⟨rfl, rfl⟩ | ⟨rfl, rfl⟩
                · rw [hp] at hq; cases hq
                · rw [pt_symm, hp] at hq; cases hq
              rw [if_neg (fun z => h7 z.2), if_neg (fun z => h8 z.2)]
          · rw [if_neg (fun z => hq z.1), if_neg (fun z => hq z.1)]
        · intro r w' k
          have g11 := g1.1
          refine fr_iload dX6_putCut_15 rfl ?_
          refine fr_aload_n dX6_putCut_17 rfl ?_
          refine fr_get fX6_putCut_18 g11 rfl ?_
          refine fr_icmp_ge (tgt := 56) dX6_putCut_21 (by decide) (by omega) (by omega) (fun c => ?_) (fun c => ?_)
          · omega
          refine fr_iload_n dX6_putCut_24 rfl ?_
          refine fr_iload_n dX6_putCut_25 rfl ?_
          refine fr_iload dX6_putCut_26 rfl ?_
          refine fr_callS kX6_putCut_28 (c_parts (d - 1) cut i j v (by omega) (by omega) (by omega) (by omega)) (by omega) rfl rfl rfl ?_
          dsimp only [List.set, Option.toList, List.cons_append, List.nil_append]
          rw [hp]
          refine fr_if_eq (tgt := 50) dX6_putCut_31 (by decide) (by decide) (fun c2 => ?_) (fun c2 => ?_)
          · refine fr_iinc dX6_putCut_50 rfl (by decide) rfl rfl ?_
            dsimp only [List.set, Option.toList, List.cons_append, List.nil_append]
            refine fr_goto (tgt := 15) dX6_putCut_53 (by decide) ?_
            exact k
          · exact absurd rfl c2)
    obtain ⟨_, wE, ⟨-, e1, e2⟩, hr⟩ := inner (i + 1) () v (by omega) ⟨by omega, g1.congr (fun x y hx hy => by
      try dsimp only
      by_cases hq : pt cut x y = true
      · by_cases h7 : (x < i ∨ y < i)
        · rw [if_pos ⟨hq, h7⟩, if_pos ⟨hq, by omega⟩]
        · have h8 : ¬ (x < i ∨ y < i ∨ (x = i ∧ y < i + 1) ∨ (y = i ∧ x < i + 1)) := by
            intro z
            have : x = i ∧ y = i := by omega
            rw [this.1, this.2, pt_self] at hq; cases hq
          rw [if_neg (fun z => h7 z.2), if_neg (fun z => h8 z.2)]
      · rw [if_neg (fun z => hq z.1), if_neg (fun z => hq z.1)]), g2⟩
    refine ⟨(), wE, ⟨e1.congr (fun x y hx hy => by
      try dsimp only
      by_cases hq : pt cut x y = true
      · by_cases h7 : (x < i + 1 ∨ y < i + 1)
        · rw [if_pos ⟨hq, by omega⟩, if_pos ⟨hq, h7⟩]
        · rw [if_neg (fun z => h7 (by have := z.2; omega)), if_neg (fun z => h7 z.2)]
      · rw [if_neg (fun z => hq z.1), if_neg (fun z => hq z.1)]), e2⟩, ?_⟩
    intro r w' k
    have g11 := g1.1
    refine fr_iload_n dX6_putCut_2 rfl ?_
    refine fr_aload_n dX6_putCut_3 rfl ?_
    refine fr_get fX6_putCut_4 g11 rfl ?_
    refine fr_icmp_ge (tgt := 62) dX6_putCut_7 (by decide) (by omega) (by omega) (fun c => ?_) (fun c => ?_)
    · omega
    refine fr_iload_n dX6_putCut_10 rfl ?_
    refine fr_iconst dX6_putCut_11 ?_
    refine fr_iadd dX6_putCut_12 ?_
    refine fr_istore dX6_putCut_13 (by decide) rfl rfl ?_
    dsimp only [List.set, Option.toList, List.cons_append, List.nil_append]
    refine hr r w' ?_
    have e11 := e1.1
    refine fr_iload dX6_putCut_15 rfl ?_
    refine fr_aload_n dX6_putCut_17 rfl ?_
    refine fr_get fX6_putCut_18 e11 rfl ?_
    refine fr_icmp_ge (tgt := 56) dX6_putCut_21 (by decide) (by omega) (by omega) (fun c => ?_) (fun c => ?_)
    · refine fr_iinc dX6_putCut_56 rfl (by decide) rfl rfl ?_
      dsimp only [List.set, Option.toList, List.cons_append, List.nil_append]
      refine fr_goto (tgt := 2) dX6_putCut_59 (by decide) ?_
      exact k.wk (by simp [fw_le])
    · omega)
  obtain ⟨_, wE, ⟨e1, e2⟩, hr⟩ := outer 0 () w (Nat.zero_le _) ⟨h.congr (fun x y hx hy => by rw [if_neg (by omega)]), kp.rf⟩
  refine ⟨wE, ?_, e1.congr (fun x y hx hy => ?_), e2⟩
  · refine fw_K.of (by decide) (Nat.le_of_ble_eq_true rfl) (by simp [Value.category]) (e2.1) ?_
    show fw_R _ _ 0 [some (.ref o), some (.int (iI cut)), some (.int (iI t)), none, none] [] _ _ _
    refine fr_iconst dX6_putCut_0 ?_
    refine fr_istore_n dX6_putCut_1 rfl (by decide) rfl rfl ?_
    dsimp only [List.set, Option.toList, List.cons_append, List.nil_append]
    refine hr _ _ ?_
    have e11 := e1.1
    refine fr_iload_n dX6_putCut_2 rfl ?_
    refine fr_aload_n dX6_putCut_3 rfl ?_
    refine fr_get fX6_putCut_4 e11 rfl ?_
    refine fr_icmp_ge (tgt := 62) dX6_putCut_7 (by decide) (by omega) (by omega) (fun c => ?_) (fun c => ?_)
    · exact fr_vret dX6_putCut_62 rfl rfl (rfl)
    · omega
  · unfold cutD
    try dsimp only
    by_cases hq : pt cut x y = true
    · rw [if_pos hq, if_pos ⟨hq, Or.inl hx⟩]
    · rw [if_neg hq, if_neg (fun z => hq z.1)]
end
section
/-! numbers and signs -/
def sumS (num : Nat → Int) (row : Nat) : Nat → Int
  | 0 => 0
  | c + 1 => sumS num row c + (if row.testBit c = true then -(num c) else num c)
theorem sumS_s (num : Nat → Int) (row c : Nat) : sumS num row (c + 1) = sumS num row c + (if row.testBit c = true then -(num c) else num c) := rfl
def okN (num : Nat → Int) : Prop := ∀ i, i < 10 → -1000 ≤ num i ∧ num i ≤ 1000
theorem sumS_r {num : Nat → Int} (h : okN num) (row : Nat) : ∀ c : Nat, c ≤ 10 → -(1000 * (c : Int)) ≤ sumS num row c ∧ sumS num row c ≤ 1000 * (c : Int)
  | 0, _ => by simp [sumS]
  | c + 1, hc => by
    have ih := sumS_r h row c (by omega)
    have h1 := h c (by omega)
    unfold sumS
    split <;> omega
/-- the size of the sum of the first c numbers with these signs -/
def szS (num : Nat → Int) (c row : Nat) : Int := ((sumS num row c).natAbs : Int)
theorem szS_r {num : Nat → Int} (h : okN num) (row c : Nat) (hc : c ≤ 10) : 0 ≤ szS num c row ∧ szS num c row ≤ 10000 := by
  have := sumS_r h row c hc
  unfold szS; omega
/-- how many rows below m make a sum of size t at most -/
def cntS (num : Nat → Int) (c : Nat) (t : Int) : Nat → Int
  | 0 => 0
  | m + 1 => cntS num c t m + (if szS num c m ≤ t then 1 else 0)
theorem cntS_s (num : Nat → Int) (c : Nat) (t : Int) (m : Nat) : cntS num c t (m + 1) = cntS num c t m + (if szS num c m ≤ t then 1 else 0) := rfl
theorem cntS_r (num : Nat → Int) (c : Nat) (t : Int) : ∀ m : Nat, 0 ≤ cntS num c t m ∧ cntS num c t m ≤ m
  | 0 => by simp [cntS]
  | m + 1 => by
    have := cntS_r num c t m
    unfold cntS; split <;> omega
/-- of the rows 0 to m the first with the least size -/
def bstS (num : Nat → Int) (c : Nat) : Nat → Nat
  | 0 => 0
  | m + 1 => if szS num c (m + 1) < szS num c (bstS num c m) then m + 1 else bstS num c m
theorem bstS_s (num : Nat → Int) (c m : Nat) : bstS num c (m + 1) = if szS num c (m + 1) < szS num c (bstS num c m) then m + 1 else bstS num c m := rfl
theorem bstS_le (num : Nat → Int) (c : Nat) : ∀ m, bstS num c m ≤ m
  | 0 => Nat.le_refl 0
  | m + 1 => by
    have := bstS_le num c m
    unfold bstS; split <;> omega
theorem c_hasLength {d : Nat} {w : fw_S} {c : Int} (hc : -2147483648 ≤ c ∧ c ≤ 2147483647) : fw_K d mX5_hasLength [.int (iI c)] w (some (.int (iI (b2 (decide (1 ≤ c ∧ c ≤ 10)))))) w := by
  refine fw_K.of (by decide) (Nat.le_of_ble_eq_true rfl) (by simp [Value.category]) (rfl) ?_
  show fw_R _ _ 0 [some (.int (iI c))] [] _ _ _
  refine fr_iload_n dX5_hasLength_0 rfl ?_
  refine fr_iconst dX5_hasLength_1 ?_
  refine fr_icmp_lt (tgt := 15) dX5_hasLength_2 (by decide) (by omega) (by omega) (fun q => ?_) (fun q => ?_)
  · refine fr_iconst dX5_hasLength_15 ?_
    exact fr_zret dX5_hasLength_16 rfl (by decide) (by rw [show decide (1 ≤ c ∧ c ≤ 10) = false by simp only [decide_eq_false_iff_not]; omega]; rfl) (rfl)
  · refine fr_iload_n dX5_hasLength_5 rfl ?_
    refine fr_bipush dX5_hasLength_6 (by decide) ?_
    refine fr_icmp_gt (tgt := 15) dX5_hasLength_8 (by decide) (by omega) (by omega) (fun q2 => ?_) (fun q2 => ?_)
    · refine fr_iconst dX5_hasLength_15 ?_
      exact fr_zret dX5_hasLength_16 rfl (by decide) (by rw [show decide (1 ≤ c ∧ c ≤ 10) = false by simp only [decide_eq_false_iff_not]; omega]; rfl) (rfl)
    · refine fr_iconst dX5_hasLength_11 ?_
      refine fr_goto (tgt := 16) dX5_hasLength_12 (by decide) ?_
      exact fr_zret dX5_hasLength_16 rfl (by decide) (by rw [show decide (1 ≤ c ∧ c ≤ 10) = true by simp only [decide_eq_true_eq]; omega]; rfl) (rfl)
theorem c_size {d o a c row : Nat} {num : Nat → Int} {w : fw_S} (hd : 1 ≤ d) (h1 : fw_g w o (.inl (5, [.ref a]))) (h2 : fw_g w a (.inr (10, .inl num))) (hN : okN num) (hc : c ≤ 10) (hr : row < 2147483647) : fw_K d mX5_size [.ref o, .int (iI c), .int (iI row)] w (some (.int (iI (szS num c row)))) w := by
  refine fw_K.of (by decide) (Nat.le_of_ble_eq_true rfl) (by simp [Value.category]) (rfl) ?_
  show fw_R _ _ 0 [some (.ref o), some (.int (iI c)), some (.int (iI row)), none, none] [] _ _ _
  refine fr_iconst dX5_size_0 ?_
  refine fr_istore_n dX5_size_1 rfl (by decide) rfl rfl ?_
  dsimp only [List.set, Option.toList, List.cons_append, List.nil_append]
  refine fr_iconst dX5_size_2 ?_
  refine fr_istore dX5_size_3 (by decide) rfl rfl ?_
  dsimp only [List.set, Option.toList, List.cons_append, List.nil_append]
  refine up_loop (fun i => fw_R mX5_size d 5 [some (.ref o), some (.int (iI c)), some (.int (iI row)), some (.int (iI (sumS num row i))), some (.int (iI i))] [] w (some (.int (iI (szS num c row)))) w) c ?_ ?_ 0 (Nat.zero_le _)
  · have hb := sumS_r hN row c hc
    refine fr_iload dX5_size_5 rfl ?_
    refine fr_iload_n dX5_size_7 rfl ?_
    refine fr_icmp_ge (tgt := 47) dX5_size_8 (by decide) (by omega) (by omega) (fun q => ?_) (fun q => ?_)
    · refine fr_iload_n dX5_size_47 rfl ?_
      refine fr_abs kX5_size_48 (by omega) rfl (by omega) ?_
      exact fr_iret dX5_size_51 rfl (rfl) (rfl)
    · omega
  · intro i hi ih
    have hb := sumS_r hN row i (by omega)
    have hni := hN i (by omega)
    have r1 := b2_r (row.testBit i)
    rw [sumS_s] at ih
    refine fr_iload dX5_size_5 rfl ?_
    refine fr_iload_n dX5_size_7 rfl ?_
    refine fr_icmp_ge (tgt := 47) dX5_size_8 (by decide) (by omega) (by omega) (fun q => ?_) (fun q => ?_)
    · omega
    refine fr_iload_n dX5_size_11 rfl ?_
    refine fr_iload_n dX5_size_12 rfl ?_
    refine fr_iload dX5_size_13 rfl ?_
    refine fr_callS kX5_size_15 (c_holds 0 row i w (by omega) (by omega)) (by omega) rfl rfl rfl ?_
    dsimp only [List.set, Option.toList, List.cons_append, List.nil_append]
    refine fr_if_eq (tgt := 32) dX5_size_18 (by decide) (by omega) (fun q2 => ?_) (fun q2 => ?_)
    · rw [b2_0.mp q2] at ih
      refine fr_aload_n dX5_size_32 rfl ?_
      refine fr_get fX5_size_33 h1 rfl ?_
      refine fr_iload dX5_size_36 rfl ?_
      refine fr_iald (i) dX5_size_38 h2 (by omega) (by omega) (by decide) ?_
      refine fr_iadd dX5_size_39 ?_
      refine fr_istore_n dX5_size_40 rfl (by decide) rfl rfl ?_
      dsimp only [List.set, Option.toList, List.cons_append, List.nil_append]
      refine fr_iinc dX5_size_41 rfl (by decide) rfl rfl ?_
      dsimp only [List.set, Option.toList, List.cons_append, List.nil_append]
      refine fr_goto (tgt := 5) dX5_size_44 (by decide) ?_
      exact ih
    · rw [b2_n0.mp q2] at ih
      refine fr_aload_n dX5_size_21 rfl ?_
      refine fr_get fX5_size_22 h1 rfl ?_
      refine fr_iload dX5_size_25 rfl ?_
      refine fr_iald (i) dX5_size_27 h2 (by omega) (by omega) (by decide) ?_
      refine fr_ineg dX5_size_28 ?_
      refine fr_goto (tgt := 39) dX5_size_29 (by decide) ?_
      refine fr_iadd dX5_size_39 ?_
      refine fr_istore_n dX5_size_40 rfl (by decide) rfl rfl ?_
      dsimp only [List.set, Option.toList, List.cons_append, List.nil_append]
      refine fr_iinc dX5_size_41 rfl (by decide) rfl rfl ?_
      dsimp only [List.set, Option.toList, List.cons_append, List.nil_append]
      refine fr_goto (tgt := 5) dX5_size_44 (by decide) ?_
      exact ih
theorem p10_le {c : Nat} (h : c ≤ 10) : 2 ^ c ≤ 1024 := Nat.pow_le_pow_right (n := 2) (by decide) h
theorem c_rowsWithin {d o a c : Nat} {num : Nat → Int} {w : fw_S} {t : Int} (hd : 2 ≤ d) (h1 : fw_g w o (.inl (5, [.ref a]))) (h2 : fw_g w a (.inr (10, .inl num))) (hN : okN num) (hc : c ≤ 10) (ht : 0 ≤ t ∧ t ≤ 10000) : fw_K d mX5_rowsWithin [.ref o, .int (iI c), .int (iI t)] w (some (.int (iI (cntS num c t (2 ^ c))))) w := by
  have hp := p10_le hc
  have hsh := iI_shl (m := 1) c (by omega) (by omega)
  rw [Nat.one_mul] at hsh
  generalize 2 ^ c = P at hp hsh ⊢
  refine fw_K.of (by decide) (Nat.le_of_ble_eq_true rfl) (by simp [Value.category]) (rfl) ?_
  show fw_R _ _ 0 [some (.ref o), some (.int (iI c)), some (.int (iI t)), none, none] [] _ _ _
  refine fr_iconst dX5_rowsWithin_0 ?_
  refine fr_istore_n dX5_rowsWithin_1 rfl (by decide) rfl rfl ?_
  dsimp only [List.set, Option.toList, List.cons_append, List.nil_append]
  refine fr_iconst dX5_rowsWithin_2 ?_
  refine fr_istore dX5_rowsWithin_3 (by decide) rfl rfl ?_
  dsimp only [List.set, Option.toList, List.cons_append, List.nil_append]
  refine up_loop (fun i => fw_R mX5_rowsWithin d 5 [some (.ref o), some (.int (iI c)), some (.int (iI t)), some (.int (iI (cntS num c t i))), some (.int (iI i))] [] w (some (.int (iI (cntS num c t P)))) w) P ?_ ?_ 0 (Nat.zero_le _)
  · refine fr_iload dX5_rowsWithin_5 rfl ?_
    refine fr_iconst dX5_rowsWithin_7 ?_
    refine fr_iload_n dX5_rowsWithin_8 rfl ?_
    refine fr_ishl ((P : Int)) dX5_rowsWithin_9 (hsh) ?_
    refine fr_icmp_ge (tgt := 33) dX5_rowsWithin_10 (by decide) (by omega) (by omega) (fun q => ?_) (fun q => ?_)
    · refine fr_iload_n dX5_rowsWithin_33 rfl ?_
      exact fr_iret dX5_rowsWithin_34 rfl (rfl) (rfl)
    · omega
  · intro i hi ih
    have hb := cntS_r num c t i
    have hs := szS_r hN i c hc
    rw [cntS_s] at ih
    refine fr_iload dX5_rowsWithin_5 rfl ?_
    refine fr_iconst dX5_rowsWithin_7 ?_
    refine fr_iload_n dX5_rowsWithin_8 rfl ?_
    refine fr_ishl ((P : Int)) dX5_rowsWithin_9 (hsh) ?_
    refine fr_icmp_ge (tgt := 33) dX5_rowsWithin_10 (by decide) (by omega) (by omega) (fun q => ?_) (fun q => ?_)
    · omega
    refine fr_aload_n dX5_rowsWithin_13 rfl ?_
    refine fr_iload_n dX5_rowsWithin_14 rfl ?_
    refine fr_iload dX5_rowsWithin_15 rfl ?_
    refine fr_callV kX5_rowsWithin_17 (c_size (d := d - 1) (by omega) h1 h2 hN hc (by omega)) (by omega) h1 rfl rfl rfl ?_
    dsimp only [List.set, Option.toList, List.cons_append, List.nil_append]
    refine fr_iload_n dX5_rowsWithin_20 rfl ?_
    refine fr_icmp_gt (tgt := 27) dX5_rowsWithin_21 (by decide) (by omega) (by omega) (fun q2 => ?_) (fun q2 => ?_)
    · rw [if_neg (by omega), Int.add_zero] at ih
      refine fr_iinc dX5_rowsWithin_27 rfl (by decide) rfl rfl ?_
      dsimp only [List.set, Option.toList, List.cons_append, List.nil_append]
      refine fr_goto (tgt := 5) dX5_rowsWithin_30 (by decide) ?_
      exact ih
    · rw [if_pos (by omega)] at ih
      refine fr_iinc dX5_rowsWithin_24 rfl (by decide) rfl rfl ?_
      dsimp only [List.set, Option.toList, List.cons_append, List.nil_append]
      refine fr_iinc dX5_rowsWithin_27 rfl (by decide) rfl rfl ?_
      dsimp only [List.set, Option.toList, List.cons_append, List.nil_append]
      refine fr_goto (tgt := 5) dX5_rowsWithin_30 (by decide) ?_
      exact ih
theorem c_smallestRow {d o a c : Nat} {num : Nat → Int} {w : fw_S} (hd : 2 ≤ d) (h1 : fw_g w o (.inl (5, [.ref a]))) (h2 : fw_g w a (.inr (10, .inl num))) (hN : okN num) (hc : c ≤ 10) : fw_K d mX5_smallestRow [.ref o, .int (iI c)] w (some (.int (iI (bstS num c (2 ^ c - 1))))) w := by
  have hp := p10_le hc
  have hp1 : 1 ≤ 2 ^ c := Nat.one_le_two_pow
  have hsh := iI_shl (m := 1) c (by omega) (by omega)
  rw [Nat.one_mul] at hsh
  generalize 2 ^ c = P at hp hp1 hsh ⊢
  refine fw_K.of (by decide) (Nat.le_of_ble_eq_true rfl) (by simp [Value.category]) (rfl) ?_
  show fw_R _ _ 0 [some (.ref o), some (.int (iI c)), none, none, none, none] [] _ _ _
  refine fr_iconst dX5_smallestRow_0 ?_
  refine fr_istore_n dX5_smallestRow_1 rfl (by decide) rfl rfl ?_
  dsimp only [List.set, Option.toList, List.cons_append, List.nil_append]
  refine fr_aload_n dX5_smallestRow_2 rfl ?_
  refine fr_iload_n dX5_smallestRow_3 rfl ?_
  refine fr_iload_n dX5_smallestRow_4 rfl ?_
  refine fr_callV kX5_smallestRow_5 (c_size (d := d - 1) (row := 0) (by omega) h1 h2 hN hc (by omega)) (by omega) h1 rfl rfl rfl ?_
  dsimp only [List.set, Option.toList, List.cons_append, List.nil_append]
  refine fr_istore_n dX5_smallestRow_8 rfl (by decide) rfl rfl ?_
  dsimp only [List.set, Option.toList, List.cons_append, List.nil_append]
  refine fr_iconst dX5_smallestRow_9 ?_
  refine fr_istore dX5_smallestRow_10 (by decide) rfl rfl ?_
  dsimp only [List.set, Option.toList, List.cons_append, List.nil_append]
  refine up_loop (fun i => fw_R mX5_smallestRow d 12 [some (.ref o), some (.int (iI c)), some (.int (iI (bstS num c i))), some (.int (iI (szS num c (bstS num c i)))), some (.int (iI ((i : Int) + 1))), none] [] w (some (.int (iI (bstS num c (P - 1))))) w) (P - 1) ?_ ?_ 0 (Nat.zero_le _)
  · refine fr_iload dX5_smallestRow_12 rfl ?_
    refine fr_iconst dX5_smallestRow_14 ?_
    refine fr_iload_n dX5_smallestRow_15 rfl ?_
    refine fr_ishl ((P : Int)) dX5_smallestRow_16 (hsh) ?_
    refine fr_icmp_ge (tgt := 47) dX5_smallestRow_17 (by decide) (by omega) (by omega) (fun q => ?_) (fun q => ?_)
    · refine fr_iload_n dX5_smallestRow_47 rfl ?_
      exact fr_iret dX5_smallestRow_48 rfl (rfl) (rfl)
    · omega
  · intro i hi ih
    have hb := bstS_le num c i
    have hs := szS_r hN (i + 1) c hc
    have hs2 := szS_r hN (bstS num c i) c hc
    rw [bstS_s] at ih
    rw [show ((i + 1 : Nat) : Int) = (i : Int) + 1 by omega] at ih
    have hcs := c_size (d := d - 1) (row := i + 1) (by omega) h1 h2 hN hc (by omega)
    rw [show ((i + 1 : Nat) : Int) = (i : Int) + 1 by omega] at hcs
    refine fr_iload dX5_smallestRow_12 rfl ?_
    refine fr_iconst dX5_smallestRow_14 ?_
    refine fr_iload_n dX5_smallestRow_15 rfl ?_
    refine fr_ishl ((P : Int)) dX5_smallestRow_16 (hsh) ?_
    refine fr_icmp_ge (tgt := 47) dX5_smallestRow_17 (by decide) (by omega) (by omega) (fun q => ?_) (fun q => ?_)
    · omega
    refine fr_aload_n dX5_smallestRow_20 rfl ?_
    refine fr_iload_n dX5_smallestRow_21 rfl ?_
    refine fr_iload dX5_smallestRow_22 rfl ?_
    refine fr_callV kX5_smallestRow_24 (hcs) (by omega) h1 rfl rfl rfl ?_
    dsimp only [List.set, Option.toList, List.cons_append, List.nil_append]
    refine fr_istore dX5_smallestRow_27 (by decide) rfl rfl ?_
    dsimp only [List.set, Option.toList, List.cons_append, List.nil_append]
    refine fr_iload dX5_smallestRow_29 rfl ?_
    refine fr_iload_n dX5_smallestRow_31 rfl ?_
    refine fr_icmp_ge (tgt := 41) dX5_smallestRow_32 (by decide) (by omega) (by omega) (fun q2 => ?_) (fun q2 => ?_)
    · rw [if_neg (by omega)] at ih
      refine fr_iinc dX5_smallestRow_41 rfl (by decide) rfl rfl ?_
      dsimp only [List.set, Option.toList, List.cons_append, List.nil_append]
      refine fr_goto (tgt := 12) dX5_smallestRow_44 (by decide) ?_
      refine ih.wk ?_
      simp [fw_le]
    · rw [if_pos (by omega)] at ih
      rw [show ((i + 1 : Nat) : Int) = (i : Int) + 1 by omega] at ih
      refine fr_iload dX5_smallestRow_35 rfl ?_
      refine fr_istore_n dX5_smallestRow_37 rfl (by decide) rfl rfl ?_
      dsimp only [List.set, Option.toList, List.cons_append, List.nil_append]
      refine fr_iload dX5_smallestRow_38 rfl ?_
      refine fr_istore_n dX5_smallestRow_40 rfl (by decide) rfl rfl ?_
      dsimp only [List.set, Option.toList, List.cons_append, List.nil_append]
      refine fr_iinc dX5_smallestRow_41 rfl (by decide) rfl rfl ?_
      dsimp only [List.set, Option.toList, List.cons_append, List.nil_append]
      refine fr_goto (tgt := 12) dX5_smallestRow_44 (by decide) ?_
      exact ih.wk (by simp [fw_le])
end
section
/-! Integer.bitCount, and the Choice -/
section RAW
variable {M : fw_M} {d pc : Nat} {L : List (Option Value)} {S : List Value} {w : fw_S} {r : Option Value} {w' : fw_S}
theorem fr_iaddR {x y : Int32} (hd : decode M.2.1 pc = .ok (.iadd, 1)) (k : fw_R M d (pc + 1) L (.int (x + y) :: S) w r w') : fw_R M d pc L (.int y :: .int x :: S) w r w' := by
  intro hN p l e R s m args below meth c g C H locs ls hH hS hl
  exact lv_iadd C.1 C.2.1 hd (k hN p l e R s m args below meth c g C H locs ls hH hS hl)
theorem fr_isubR {x y : Int32} (hd : decode M.2.1 pc = .ok (.isub, 1)) (k : fw_R M d (pc + 1) L (.int (x - y) :: S) w r w') : fw_R M d pc L (.int y :: .int x :: S) w r w' := by
  intro hN p l e R s m args below meth c g C H locs ls hH hS hl
  exact lv_isub C.1 C.2.1 hd (k hN p l e R s m args below meth c g C H locs ls hH hS hl)
theorem fr_iandR {x y : Int32} (hd : decode M.2.1 pc = .ok (.iand, 1)) (k : fw_R M d (pc + 1) L (.int (x &&& y) :: S) w r w') : fw_R M d pc L (.int y :: .int x :: S) w r w' := by
  intro hN p l e R s m args below meth c g C H locs ls hH hS hl
  exact lv_iand C.1 C.2.1 hd (k hN p l e R s m args below meth c g C H locs ls hH hS hl)
end RAW
def bitsN (v : Nat) : Nat → Nat
  | 0 => 0
  | k + 1 => bitsN v k + v / 2 ^ k % 2
def popc (v : Nat) : Nat := bitsN v 10
def bcu (x : Int32) (k : Int32) : Int32 := (x.toUInt32 >>> (k.toUInt32 &&& Int32.toUInt32 31)).toInt32
def bc1 (x : Int32) : Int32 := x - (bcu x (iI 1) &&& 1431655765)
def bc2 (x : Int32) : Int32 := (x &&& 858993459) + (bcu x (iI 2) &&& 858993459)
def bc3 (x : Int32) : Int32 := (x + bcu x (iI 4)) &&& 252645135
def bc4 (x : Int32) : Int32 := x + bcu x (iI 8)
def bc5 (x : Int32) : Int32 := x + bcu x (iI 16)
theorem bc_all : ∀ z : Nat, z < 64 → bc5 (bc4 (bc3 (bc2 (bc1 (iI z))))) &&& iI 63 = iI (popc z) := by decide +kernel
set_option maxRecDepth 20000 in
theorem c_bitCount {d z : Nat} {w : fw_S} (hz : z < 64) : fw_K d mJ6_bitCount_0f7a4 [.int (iI z)] w (some (.int (iI (popc z)))) w := by
  refine fw_K.of (by decide) (Nat.le_of_ble_eq_true rfl) (by simp [Value.category]) (rfl) ?_
  show fw_R _ _ 0 [some (.int (iI z))] [] _ _ _
  rw [← bc_all z hz]
  generalize iI (z : Int) = x
  refine fr_iload_n dJ6_bitCount_0f7a4_0 rfl ?_
  refine fr_iload_n dJ6_bitCount_0f7a4_1 rfl ?_
  refine fr_iconst dJ6_bitCount_0f7a4_2 ?_
  refine fr_iushr dJ6_bitCount_0f7a4_3 rfl ?_
  refine fr_ldcw dJ6_bitCount_0f7a4_4 (okm (i := 303) rfl rfl) ?_
  refine fr_iandR dJ6_bitCount_0f7a4_7 ?_
  refine fr_isubR dJ6_bitCount_0f7a4_8 ?_
  refine fr_istore_n dJ6_bitCount_0f7a4_9 rfl (by decide) rfl rfl ?_
  dsimp only [List.set, Option.toList, List.cons_append, List.nil_append]
  change fw_R _ _ _ [some (.int (bc1 x))] _ _ _ _
  generalize bc1 x = x
  refine fr_iload_n dJ6_bitCount_0f7a4_10 rfl ?_
  refine fr_ldcw dJ6_bitCount_0f7a4_11 (okm (i := 304) rfl rfl) ?_
  refine fr_iandR dJ6_bitCount_0f7a4_14 ?_
  refine fr_iload_n dJ6_bitCount_0f7a4_15 rfl ?_
  refine fr_iconst dJ6_bitCount_0f7a4_16 ?_
  refine fr_iushr dJ6_bitCount_0f7a4_17 rfl ?_
  refine fr_ldcw dJ6_bitCount_0f7a4_18 (okm (i := 304) rfl rfl) ?_
  refine fr_iandR dJ6_bitCount_0f7a4_21 ?_
  refine fr_iaddR dJ6_bitCount_0f7a4_22 ?_
  refine fr_istore_n dJ6_bitCount_0f7a4_23 rfl (by decide) rfl rfl ?_
  dsimp only [List.set, Option.toList, List.cons_append, List.nil_append]
  change fw_R _ _ _ [some (.int (bc2 x))] _ _ _ _
  generalize bc2 x = x
  refine fr_iload_n dJ6_bitCount_0f7a4_24 rfl ?_
  refine fr_iload_n dJ6_bitCount_0f7a4_25 rfl ?_
  refine fr_iconst dJ6_bitCount_0f7a4_26 ?_
  refine fr_iushr dJ6_bitCount_0f7a4_27 rfl ?_
  refine fr_iaddR dJ6_bitCount_0f7a4_28 ?_
  refine fr_ldcw dJ6_bitCount_0f7a4_29 (okm (i := 305) rfl rfl) ?_
  refine fr_iandR dJ6_bitCount_0f7a4_32 ?_
  refine fr_istore_n dJ6_bitCount_0f7a4_33 rfl (by decide) rfl rfl ?_
  dsimp only [List.set, Option.toList, List.cons_append, List.nil_append]
  change fw_R _ _ _ [some (.int (bc3 x))] _ _ _ _
  generalize bc3 x = x
  refine fr_iload_n dJ6_bitCount_0f7a4_34 rfl ?_
  refine fr_iload_n dJ6_bitCount_0f7a4_35 rfl ?_
  refine fr_bipush dJ6_bitCount_0f7a4_36 (by decide) ?_
  refine fr_iushr dJ6_bitCount_0f7a4_38 rfl ?_
  refine fr_iaddR dJ6_bitCount_0f7a4_39 ?_
  refine fr_istore_n dJ6_bitCount_0f7a4_40 rfl (by decide) rfl rfl ?_
  dsimp only [List.set, Option.toList, List.cons_append, List.nil_append]
  change fw_R _ _ _ [some (.int (bc4 x))] _ _ _ _
  generalize bc4 x = x
  refine fr_iload_n dJ6_bitCount_0f7a4_41 rfl ?_
  refine fr_iload_n dJ6_bitCount_0f7a4_42 rfl ?_
  refine fr_bipush dJ6_bitCount_0f7a4_43 (by decide) ?_
  refine fr_iushr dJ6_bitCount_0f7a4_45 rfl ?_
  refine fr_iaddR dJ6_bitCount_0f7a4_46 ?_
  refine fr_istore_n dJ6_bitCount_0f7a4_47 rfl (by decide) rfl rfl ?_
  dsimp only [List.set, Option.toList, List.cons_append, List.nil_append]
  change fw_R _ _ _ [some (.int (bc5 x))] _ _ _ _
  refine fr_iload_n dJ6_bitCount_0f7a4_48 rfl ?_
  refine fr_bipush dJ6_bitCount_0f7a4_49 (by decide) ?_
  refine fr_iandR dJ6_bitCount_0f7a4_51 ?_
  exact fr_iret dJ6_bitCount_0f7a4_52 rfl (rfl) (rfl)
theorem popc_r (z : Nat) : popc z ≤ 10 := by
  have : ∀ k, bitsN z k ≤ k := by
    intro k
    induction k with
    | zero => exact Nat.le_refl 0
    | succ k ih => unfold bitsN; omega
  exact this 10
/-- the distance of the point i to its nearest of the set, among the first j points; at most from -/
def nearW (top : Int) (D : Nat → Nat → Int) (set i : Nat) : Nat → Int
  | 0 => top
  | j + 1 => if set.testBit j = true then min (nearW top D set i j) (D i j) else nearW top D set i j
theorem nearW_s (top : Int) (D : Nat → Nat → Int) (set i j : Nat) : nearW top D set i (j + 1) = if set.testBit j = true then min (nearW top D set i j) (D i j) else nearW top D set i j := rfl
theorem nearW_r {top hi : Int} {D : Nat → Nat → Int} {n : Nat} (hD : okR n D hi) (h0 : 0 ≤ top) (set : Nat) {i : Nat} (hin : i < n) : ∀ j : Nat, j ≤ n → 0 ≤ nearW top D set i j ∧ nearW top D set i j ≤ top
  | 0, _ => by unfold nearW; omega
  | j + 1, hj => by
    have ih := nearW_r hD h0 set hin j (by omega)
    have := hD i j hin (by omega)
    rw [nearW_s]; split <;> omega
def chs (w : fw_S) (o t a n : Nat) (D : Nat → Nat → Int) : Prop := fw_g w o (.inl (0, [.ref t])) ∧ tb w t a n D
theorem c_wayToNearest {d o t a n set i : Nat} {D : Nat → Nat → Int} {w : fw_S} (hd : 1 ≤ d) (h : chs w o t a n D) (hD : okR n D 30) (hs : set < 64) (hi : i < n) : fw_K d mX0_wayToNearest [.ref o, .int (iI set), .int (iI i)] w (some (.int (iI (nearW 30 D set i n)))) w := by
  obtain ⟨h1, h2⟩ := h
  have h3 := h2.1
  have hn := h2.2.2
  refine fw_K.of (by decide) (Nat.le_of_ble_eq_true rfl) (by simp [Value.category]) (rfl) ?_
  show fw_R _ _ 0 [some (.ref o), some (.int (iI set)), some (.int (iI i)), none, none] [] _ _ _
  refine fr_bipush dX0_wayToNearest_0 (by decide) ?_
  refine fr_istore_n dX0_wayToNearest_2 rfl (by decide) rfl rfl ?_
  dsimp only [List.set, Option.toList, List.cons_append, List.nil_append]
  refine fr_iconst dX0_wayToNearest_3 ?_
  refine fr_istore dX0_wayToNearest_4 (by decide) rfl rfl ?_
  dsimp only [List.set, Option.toList, List.cons_append, List.nil_append]
  refine up_loop (fun j => fw_R mX0_wayToNearest d 6 [some (.ref o), some (.int (iI set)), some (.int (iI i)), some (.int (iI (nearW 30 D set i j))), some (.int (iI j))] [] w (some (.int (iI (nearW 30 D set i n)))) w) n ?_ ?_ 0 (Nat.zero_le _)
  · refine fr_iload dX0_wayToNearest_6 rfl ?_
    refine fr_aload_n dX0_wayToNearest_8 rfl ?_
    refine fr_get fX0_wayToNearest_9 h1 rfl ?_
    refine fr_get fX0_wayToNearest_12 h3 rfl ?_
    refine fr_icmp_ge (tgt := 48) dX0_wayToNearest_15 (by decide) (by omega) (by omega) (fun c => ?_) (fun c => ?_)
    · refine fr_iload_n dX0_wayToNearest_48 rfl ?_
      exact fr_iret dX0_wayToNearest_49 rfl (rfl) (rfl)
    · omega
  · intro j hj ih
    have r1 := b2_r (set.testBit j)
    have r2 := nearW_r hD (top := 30) (by omega) set hi j (by omega)
    have r3 := hD i j hi hj
    rw [nearW_s] at ih
    refine fr_iload dX0_wayToNearest_6 rfl ?_
    refine fr_aload_n dX0_wayToNearest_8 rfl ?_
    refine fr_get fX0_wayToNearest_9 h1 rfl ?_
    refine fr_get fX0_wayToNearest_12 h3 rfl ?_
    refine fr_icmp_ge (tgt := 48) dX0_wayToNearest_15 (by decide) (by omega) (by omega) (fun c => ?_) (fun c => ?_)
    · omega
    refine fr_iload_n dX0_wayToNearest_18 rfl ?_
    refine fr_iload dX0_wayToNearest_19 rfl ?_
    refine fr_callS kX0_wayToNearest_21 (c_holds 0 set j w (by omega) (by omega)) (by omega) rfl rfl rfl ?_
    dsimp only [List.set, Option.toList, List.cons_append, List.nil_append]
    refine fr_if_eq (tgt := 42) dX0_wayToNearest_24 (by decide) (by omega) (fun c2 => ?_) (fun c2 => ?_)
    · rw [b2_0.mp c2, if_neg (by decide)] at ih
      refine fr_iinc dX0_wayToNearest_42 rfl (by decide) rfl rfl ?_
      dsimp only [List.set, Option.toList, List.cons_append, List.nil_append]
      refine fr_goto (tgt := 6) dX0_wayToNearest_45 (by decide) ?_
      exact ih
    · rw [b2_n0.mp c2, if_pos rfl] at ih
      refine fr_iload_n dX0_wayToNearest_27 rfl ?_
      refine fr_aload_n dX0_wayToNearest_28 rfl ?_
      refine fr_get fX0_wayToNearest_29 h1 rfl ?_
      refine fr_iload_n dX0_wayToNearest_32 rfl ?_
      refine fr_iload dX0_wayToNearest_33 rfl ?_
      refine fr_callV kX0_wayToNearest_35 (c_between (d := 0) h2 hi hj) (by omega) h3 rfl rfl rfl ?_
      dsimp only [List.set, Option.toList, List.cons_append, List.nil_append]
      refine fr_min kX0_wayToNearest_38 (by omega) (by omega) rfl (by omega) ?_
      refine fr_istore_n dX0_wayToNearest_41 rfl (by decide) rfl rfl ?_
      dsimp only [List.set, Option.toList, List.cons_append, List.nil_append]
      refine fr_iinc dX0_wayToNearest_42 rfl (by decide) rfl rfl ?_
      dsimp only [List.set, Option.toList, List.cons_append, List.nil_append]
      refine fr_goto (tgt := 6) dX0_wayToNearest_45 (by decide) ?_
      exact ih
def costS (top : Int) (n : Nat) (D : Nat → Nat → Int) (set : Nat) : Nat → Int
  | 0 => 0
  | i + 1 => costS top n D set i + nearW top D set i n
def costM (top : Int) (n : Nat) (D : Nat → Nat → Int) (set : Nat) : Nat → Int
  | 0 => 0
  | i + 1 => max (costM top n D set i) (nearW top D set i n)
theorem costS_s (top : Int) (n : Nat) (D : Nat → Nat → Int) (set i : Nat) : costS top n D set (i + 1) = costS top n D set i + nearW top D set i n := rfl
theorem costM_s (top : Int) (n : Nat) (D : Nat → Nat → Int) (set i : Nat) : costM top n D set (i + 1) = max (costM top n D set i) (nearW top D set i n) := rfl
theorem cost_r {top hi : Int} {D : Nat → Nat → Int} {n : Nat} (hD : okR n D hi) (h0 : 0 ≤ top) (set : Nat) : ∀ i : Nat, i ≤ n → (0 ≤ costS top n D set i ∧ costS top n D set i ≤ top * i) ∧ (0 ≤ costM top n D set i ∧ costM top n D set i ≤ top)
  | 0, _ => by unfold costS costM; simp; exact h0
  | i + 1, hi => by
    have ih := cost_r hD h0 set i (by omega)
    have := nearW_r hD h0 set (i := i) (by omega) n (Nat.le_refl n)
    rw [costS_s, costM_s, show top * ((i + 1 : Nat) : Int) = top * i + top by rw [show ((i + 1 : Nat) : Int) = (i : Int) + 1 by omega, Int.mul_add, Int.mul_one]]
    omega
/-- what a set of centres costs: the sum (true), or the greatest -/
def costA (top : Int) (n : Nat) (D : Nat → Nat → Int) (s : Bool) (set : Nat) : Int := if s = true then costS top n D set n else costM top n D set n
theorem c_cost {d o t a n set : Nat} {D : Nat → Nat → Int} {w : fw_S} (hd : 2 ≤ d) (h : chs w o t a n D) (hD : okR n D 30) (hs : set < 64) (s : Bool) : fw_K d mX0_cost [.ref o, .int (iI set), .int (iI (b2 s))] w (some (.int (iI (costA 30 n D s set)))) w := by
  have h1 := h.1
  have h3 := h.2.1
  have hn := h.2.2.2
  refine fw_K.of (by decide) (Nat.le_of_ble_eq_true rfl) (by simp [Value.category]) (rfl) ?_
  show fw_R _ _ 0 [some (.ref o), some (.int (iI set)), some (.int (iI (b2 s))), none, none, none, none] [] _ _ _
  refine fr_iconst dX0_cost_0 ?_
  refine fr_istore_n dX0_cost_1 rfl (by decide) rfl rfl ?_
  dsimp only [List.set, Option.toList, List.cons_append, List.nil_append]
  refine fr_iconst dX0_cost_2 ?_
  refine fr_istore dX0_cost_3 (by decide) rfl rfl ?_
  dsimp only [List.set, Option.toList, List.cons_append, List.nil_append]
  refine fr_iconst dX0_cost_5 ?_
  refine fr_istore dX0_cost_6 (by decide) rfl rfl ?_
  dsimp only [List.set, Option.toList, List.cons_append, List.nil_append]
  refine up_loop (fun i => fw_R mX0_cost d 8 [some (.ref o), some (.int (iI set)), some (.int (iI (b2 s))), some (.int (iI (costS 30 n D set i))), some (.int (iI (costM 30 n D set i))), some (.int (iI i)), none] [] w (some (.int (iI (costA 30 n D s set)))) w) n ?_ ?_ 0 (Nat.zero_le _)
  · have hb := b2_r s
    refine fr_iload dX0_cost_8 rfl ?_
    refine fr_aload_n dX0_cost_10 rfl ?_
    refine fr_get fX0_cost_11 h1 rfl ?_
    refine fr_get fX0_cost_14 h3 rfl ?_
    refine fr_icmp_ge (tgt := 49) dX0_cost_17 (by decide) (by omega) (by omega) (fun c => ?_) (fun c => ?_)
    · refine fr_iload_n dX0_cost_49 rfl ?_
      refine fr_if_eq (tgt := 57) dX0_cost_50 (by decide) (by omega) (fun c2 => ?_) (fun c2 => ?_)
      · refine fr_iload dX0_cost_57 rfl ?_
        exact fr_iret dX0_cost_59 rfl (by rw [costA, b2_0.mp c2]; rfl) (rfl)
      · refine fr_iload_n dX0_cost_53 rfl ?_
        refine fr_goto (tgt := 59) dX0_cost_54 (by decide) ?_
        exact fr_iret dX0_cost_59 rfl (by rw [costA, b2_n0.mp c2]; rfl) (rfl)
    · omega
  · intro i hi ih
    have hr := cost_r hD (top := 30) (by omega) set i (by omega)
    have hw := nearW_r hD (top := 30) (by omega) set hi n (Nat.le_refl n)
    rw [costS_s, costM_s] at ih
    refine fr_iload dX0_cost_8 rfl ?_
    refine fr_aload_n dX0_cost_10 rfl ?_
    refine fr_get fX0_cost_11 h1 rfl ?_
    refine fr_get fX0_cost_14 h3 rfl ?_
    refine fr_icmp_ge (tgt := 49) dX0_cost_17 (by decide) (by omega) (by omega) (fun c => ?_) (fun c => ?_)
    · omega
    refine fr_aload_n dX0_cost_20 rfl ?_
    refine fr_iload_n dX0_cost_21 rfl ?_
    refine fr_iload dX0_cost_22 rfl ?_
    refine fr_callV kX0_cost_24 (c_wayToNearest (d := 1) (by omega) h hD hs hi) (by omega) h1 rfl rfl rfl ?_
    dsimp only [List.set, Option.toList, List.cons_append, List.nil_append]
    refine fr_istore dX0_cost_27 (by decide) rfl rfl ?_
    dsimp only [List.set, Option.toList, List.cons_append, List.nil_append]
    refine fr_iload_n dX0_cost_29 rfl ?_
    refine fr_iload dX0_cost_30 rfl ?_
    refine fr_iadd dX0_cost_32 ?_
    refine fr_istore_n dX0_cost_33 rfl (by decide) rfl rfl ?_
    dsimp only [List.set, Option.toList, List.cons_append, List.nil_append]
    refine fr_iload dX0_cost_34 rfl ?_
    refine fr_iload dX0_cost_36 rfl ?_
    refine fr_max kX0_cost_38 (by omega) (by omega) rfl (by omega) ?_
    refine fr_istore dX0_cost_41 (by decide) rfl rfl ?_
    dsimp only [List.set, Option.toList, List.cons_append, List.nil_append]
    refine fr_iinc dX0_cost_43 rfl (by decide) rfl rfl ?_
    dsimp only [List.set, Option.toList, List.cons_append, List.nil_append]
    refine fr_goto (tgt := 8) dX0_cost_46 (by decide) ?_
    exact ih.wk (by simp [fw_le])
/-- the sets below m gone through: the first of k points that costs least, and what it costs (0, 9999: none yet) -/
def cenS (top : Int) (n : Nat) (D : Nat → Nat → Int) (k : Nat) (s : Bool) : Nat → Nat × Int
  | 0 => (0, 9999)
  | m + 1 => if popc m = k ∧ costA top n D s m < (cenS top n D k s m).2 then (m, costA top n D s m) else cenS top n D k s m
theorem cenS_s (top : Int) (n : Nat) (D : Nat → Nat → Int) (k : Nat) (s : Bool) (m : Nat) : cenS top n D k s (m + 1) = if popc m = k ∧ costA top n D s m < (cenS top n D k s m).2 then (m, costA top n D s m) else cenS top n D k s m := rfl
theorem costA_r {D : Nat → Nat → Int} {n : Nat} {top hi : Int} (h0 : 0 ≤ top) (ht : top ≤ 99) (hn : n ≤ 6) (hD : okR n D hi) (s : Bool) (set : Nat) : 0 ≤ costA top n D s set ∧ costA top n D s set ≤ 600 := by
  have hr := cost_r hD h0 set n (Nat.le_refl n)
  have h2 : top * (n : Int) ≤ 99 * 6 := Int.mul_le_mul ht (by omega) (by omega) (by omega)
  unfold costA; split <;> omega
theorem cenS_r {D : Nat → Nat → Int} {n : Nat} {top hi : Int} (h0 : 0 ≤ top) (ht : top ≤ 99) (hn : n ≤ 6) (hD : okR n D hi) {k : Nat} (hk : 1 ≤ k) (s : Bool) : ∀ m : Nat, ((cenS top n D k s m).1 = 0 ∧ (cenS top n D k s m).2 = 9999) ∨ (1 ≤ (cenS top n D k s m).1 ∧ (cenS top n D k s m).1 < m ∧ (cenS top n D k s m).2 = costA top n D s (cenS top n D k s m).1)
  | 0 => Or.inl ⟨rfl, rfl⟩
  | m + 1 => by
    have ih := cenS_r h0 ht hn hD hk s m
    rw [cenS_s]
    split
    next h =>
      have : m ≠ 0 := by
        intro q; subst q
        have h3 : popc 0 = 0 := by decide
        omega
      exact Or.inr ⟨by simp; omega, by simp, rfl⟩
    next h =>
      rcases ih with h1 | h1
      · exact Or.inl h1
      · exact Or.inr ⟨h1.1, by omega, h1.2.2⟩
theorem c_nearest {d o t a n k : Nat} {D : Nat → Nat → Int} {w : fw_S} (hd : 3 ≤ d) (h : chs w o t a n D) (hD : okR n D 30) (hk : 1 ≤ k ∧ k ≤ n) (s : Bool) : fw_K d mX0_nearest [.ref o, .int (iI k), .int (iI (b2 s))] w (some (.int (iI (cenS 30 n D k s (2 ^ n)).1))) w := by
  have h1 := h.1
  have h3 := h.2.1
  have hn := h.2.2.2
  have hp := p2_le hn.2
  have hp1 : 1 ≤ 2 ^ n := Nat.one_le_two_pow
  have hsh := iI_shl (m := 1) n (by omega) (by omega)
  rw [Nat.one_mul] at hsh
  generalize 2 ^ n = P at hp hp1 hsh ⊢
  refine fw_K.of (by decide) (Nat.le_of_ble_eq_true rfl) (by simp [Value.category]) (rfl) ?_
  show fw_R _ _ 0 [some (.ref o), some (.int (iI k)), some (.int (iI (b2 s))), none, none, none, none] [] _ _ _
  refine fr_iconst dX0_nearest_0 ?_
  refine fr_istore_n dX0_nearest_1 rfl (by decide) rfl rfl ?_
  dsimp only [List.set, Option.toList, List.cons_append, List.nil_append]
  refine fr_iconst dX0_nearest_2 ?_
  refine fr_istore dX0_nearest_3 (by decide) rfl rfl ?_
  dsimp only [List.set, Option.toList, List.cons_append, List.nil_append]
  refine fr_iconst dX0_nearest_5 ?_
  refine fr_istore dX0_nearest_6 (by decide) rfl rfl ?_
  dsimp only [List.set, Option.toList, List.cons_append, List.nil_append]
  have main := up_loop (fun m => 1 ≤ m → fw_R mX0_nearest d 8 [some (.ref o), some (.int (iI k)), some (.int (iI (b2 s))), some (.int (iI (cenS 30 n D k s m).1)), some (.int (iI (if (cenS 30 n D k s m).1 = 0 then 0 else (cenS 30 n D k s m).2))), some (.int (iI m)), none] [] w (some (.int (iI (cenS 30 n D k s P).1))) w) P ?_ ?_ 1 hp1 (Nat.le_refl 1)
  · have e0 : cenS 30 n D k s 1 = (0, 9999) := by
      rw [cenS_s, if_neg (fun z => by have h3 : popc 0 = 0 := by decide
                                      have := z.1; omega)]
      rfl
    rw [e0] at main
    exact main
  · intro _
    refine fr_iload dX0_nearest_8 rfl ?_
    refine fr_iconst dX0_nearest_10 ?_
    refine fr_aload_n dX0_nearest_11 rfl ?_
    refine fr_get fX0_nearest_12 h1 rfl ?_
    refine fr_get fX0_nearest_15 h3 rfl ?_
    refine fr_ishl ((P : Int)) dX0_nearest_18 (hsh) ?_
    refine fr_icmp_ge (tgt := 64) dX0_nearest_19 (by decide) (by omega) (by omega) (fun c => ?_) (fun c => ?_)
    · refine fr_iload_n dX0_nearest_64 rfl ?_
      exact fr_iret dX0_nearest_65 rfl (rfl) (rfl)
    · omega
  · intro m hm ih hm1
    have ih := ih (by omega)
    have hcr := cenS_r (top := 30) (by omega) (by omega) hn.2 hD hk.1 s m
    have hco := costA_r (top := 30) (by omega) (by omega) hn.2 hD s m
    have hco2 := costA_r (top := 30) (by omega) (by omega) hn.2 hD s (cenS 30 n D k s m).1
    have hpc := popc_r m
    rw [cenS_s] at ih
    have skip : ¬ (popc m = k ∧ costA 30 n D s m < (cenS 30 n D k s m).2) → ∀ x6, fw_R mX0_nearest d 58 [some (.ref o), some (.int (iI k)), some (.int (iI (b2 s))), some (.int (iI (cenS 30 n D k s m).1)), some (.int (iI (if (cenS 30 n D k s m).1 = 0 then 0 else (cenS 30 n D k s m).2))), some (.int (iI m)), x6] [] w (some (.int (iI (cenS 30 n D k s P).1))) w := by
      intro hno x6
      rw [if_neg hno] at ih
      refine fr_iinc dX0_nearest_58 rfl (by decide) rfl rfl ?_
      dsimp only [List.set, Option.toList, List.cons_append, List.nil_append]
      refine fr_goto (tgt := 8) dX0_nearest_61 (by decide) ?_
      exact ih.wk (by simp [fw_le])
    have take : (popc m = k ∧ costA 30 n D s m < (cenS 30 n D k s m).2) → fw_R mX0_nearest d 51 [some (.ref o), some (.int (iI k)), some (.int (iI (b2 s))), some (.int (iI (cenS 30 n D k s m).1)), some (.int (iI (if (cenS 30 n D k s m).1 = 0 then 0 else (cenS 30 n D k s m).2))), some (.int (iI m)), some (.int (iI (costA 30 n D s m)))] [] w (some (.int (iI (cenS 30 n D k s P).1))) w := by
      intro hyes
      rw [if_pos hyes] at ih
      rw [if_neg (show ¬ (m, costA 30 n D s m).1 = 0 by simp; omega)] at ih
      refine fr_iload dX0_nearest_51 rfl ?_
      refine fr_istore_n dX0_nearest_53 rfl (by decide) rfl rfl ?_
      dsimp only [List.set, Option.toList, List.cons_append, List.nil_append]
      refine fr_iload dX0_nearest_54 rfl ?_
      refine fr_istore dX0_nearest_56 (by decide) rfl rfl ?_
      dsimp only [List.set, Option.toList, List.cons_append, List.nil_append]
      refine fr_iinc dX0_nearest_58 rfl (by decide) rfl rfl ?_
      dsimp only [List.set, Option.toList, List.cons_append, List.nil_append]
      refine fr_goto (tgt := 8) dX0_nearest_61 (by decide) ?_
      exact ih.wk (by simp [fw_le])
    refine fr_iload dX0_nearest_8 rfl ?_
    refine fr_iconst dX0_nearest_10 ?_
    refine fr_aload_n dX0_nearest_11 rfl ?_
    refine fr_get fX0_nearest_12 h1 rfl ?_
    refine fr_get fX0_nearest_15 h3 rfl ?_
    refine fr_ishl ((P : Int)) dX0_nearest_18 (hsh) ?_
    refine fr_icmp_ge (tgt := 64) dX0_nearest_19 (by decide) (by omega) (by omega) (fun c => ?_) (fun c => ?_)
    · omega
    refine fr_iload dX0_nearest_22 rfl ?_
    refine fr_callS kX0_nearest_24 (c_bitCount (d := 0) (by omega)) (by omega) rfl rfl rfl ?_
    dsimp only [List.set, Option.toList, List.cons_append, List.nil_append]
    refine fr_iload_n dX0_nearest_27 rfl ?_
    refine fr_icmp_ne (tgt := 58) dX0_nearest_28 (by decide) (by omega) (by omega) (fun c2 => ?_) (fun c2 => ?_)
    · exact skip (fun z => c2 (by have := z.1; omega)) _
    · refine fr_aload_n dX0_nearest_31 rfl ?_
      refine fr_iload dX0_nearest_32 rfl ?_
      refine fr_iload_n dX0_nearest_34 rfl ?_
      refine fr_callV kX0_nearest_35 (c_cost (d := 2) (by omega) h hD (by omega) s) (by omega) h1 rfl rfl rfl ?_
      dsimp only [List.set, Option.toList, List.cons_append, List.nil_append]
      refine fr_istore dX0_nearest_38 (by decide) rfl rfl ?_
      dsimp only [List.set, Option.toList, List.cons_append, List.nil_append]
      refine fr_iload_n dX0_nearest_40 rfl ?_
      refine fr_if_eq (tgt := 51) dX0_nearest_41 (by decide) (by omega) (fun c3 => ?_) (fun c3 => ?_)
      · exact take ⟨by omega, by omega⟩
      · rw [if_neg (by omega)]
        refine fr_iload dX0_nearest_44 rfl ?_
        refine fr_iload dX0_nearest_46 rfl ?_
        refine fr_icmp_ge (tgt := 58) dX0_nearest_48 (by decide) (by omega) (by omega) (fun c4 => ?_) (fun c4 => ?_)
        · have := skip (fun z => by have := z.2; omega) (some (.int (iI (costA 30 n D s m))))
          rw [if_neg (by omega)] at this
          exact this
        · have := take ⟨by omega, by omega⟩
          rw [if_neg (by omega)] at this
          exact this
end
section
/-! laws: the cases gone through, and the Laws' small methods -/
theorem nI_bv (n : Nat) : (nI n).toBitVec = BitVec.ofNat 32 n := rfl
theorem iI_or (a b : Nat) : iI a ||| iI b = iI ((a ||| b : Nat) : Int) := by
  rw [iI_nat, iI_nat, iI_nat, ← Int32.toBitVec_inj, Int32.toBitVec_or]
  rw [nI_bv, nI_bv, nI_bv]
  apply BitVec.eq_of_toNat_eq
  simp only [BitVec.toNat_or, BitVec.toNat_ofNat]
  rw [Nat.or_mod_two_pow]
theorem iI_and (a b : Nat) : iI a &&& iI b = iI ((a &&& b : Nat) : Int) := by
  rw [iI_nat, iI_nat, iI_nat, ← Int32.toBitVec_inj, Int32.toBitVec_and]
  rw [nI_bv, nI_bv, nI_bv]
  apply BitVec.eq_of_toNat_eq
  simp only [BitVec.toNat_and, BitVec.toNat_ofNat]
  rw [Nat.and_mod_two_pow]
/-- how many of the first m numbers break (p), and the first that does (-4: none) -/
def scC (p : Nat → Bool) : Nat → Int
  | 0 => 0
  | m + 1 => scC p m + (if p m = true then 1 else 0)
def scF (p : Nat → Bool) : Nat → Int
  | 0 => -4
  | m + 1 => if p m = true ∧ scC p m = 0 then (m : Int) else scF p m
theorem scC_s (p : Nat → Bool) (m : Nat) : scC p (m + 1) = scC p m + (if p m = true then 1 else 0) := rfl
theorem scF_s (p : Nat → Bool) (m : Nat) : scF p (m + 1) = if p m = true ∧ scC p m = 0 then (m : Int) else scF p m := rfl
theorem scC_r (p : Nat → Bool) : ∀ m : Nat, 0 ≤ scC p m ∧ scC p m ≤ m
  | 0 => by simp [scC]
  | m + 1 => by
    have := scC_r p m
    rw [scC_s]; split <;> omega
theorem sc_skip {p : Nat → Bool} {m m' : Nat} (hm : m ≤ m') (h : ∀ k, m ≤ k → k < m' → p k = false) : scF p m' = scF p m ∧ scC p m' = scC p m := by
  obtain ⟨k, rfl⟩ : ∃ k, m' = m + k := ⟨m' - m, by omega⟩
  clear hm
  induction k with
  | zero => exact ⟨rfl, rfl⟩
  | succ k ih =>
    have ih := ih (fun j h1 h2 => h j h1 (by omega))
    have hp := h (m + k) (by omega) (by omega)
    rw [show m + (k + 1) = (m + k) + 1 by omega, scC_s, scF_s, hp]
    simp [ih]
theorem c_hasLaw {d : Nat} {w : fw_S} {c : Int} (hc : -2147483648 ≤ c ∧ c ≤ 2147483647) : fw_K d mX1_hasLaw [.int (iI c)] w (some (.int (iI (b2 (decide (0 ≤ c ∧ c ≤ 3)))))) w := by
  refine fw_K.of (by decide) (Nat.le_of_ble_eq_true rfl) (by simp [Value.category]) (rfl) ?_
  show fw_R _ _ 0 [some (.int (iI c))] [] _ _ _
  refine fr_iload_n dX1_hasLaw_0 rfl ?_
  refine fr_if_lt (tgt := 13) dX1_hasLaw_1 (by decide) (by omega) (fun q => ?_) (fun q => ?_)
  · refine fr_iconst dX1_hasLaw_13 ?_
    exact fr_zret dX1_hasLaw_14 rfl (by decide) (by rw [show decide (0 ≤ c ∧ c ≤ 3) = false by simp only [decide_eq_false_iff_not]; omega]; rfl) (rfl)
  · refine fr_iload_n dX1_hasLaw_4 rfl ?_
    refine fr_iconst dX1_hasLaw_5 ?_
    refine fr_icmp_gt (tgt := 13) dX1_hasLaw_6 (by decide) (by omega) (by omega) (fun q2 => ?_) (fun q2 => ?_)
    · refine fr_iconst dX1_hasLaw_13 ?_
      exact fr_zret dX1_hasLaw_14 rfl (by decide) (by rw [show decide (0 ≤ c ∧ c ≤ 3) = false by simp only [decide_eq_false_iff_not]; omega]; rfl) (rfl)
    · refine fr_iconst dX1_hasLaw_9 ?_
      refine fr_goto (tgt := 14) dX1_hasLaw_10 (by decide) ?_
      exact fr_zret dX1_hasLaw_14 rfl (by decide) (by rw [show decide (0 ≤ c ∧ c ≤ 3) = true by simp only [decide_eq_true_eq]; omega]; rfl) (rfl)
/-- o is a Laws of the table t; what it has found -/
def lst (w : fw_S) (o t a wa n : Nat) (D : Nat → Nat → Int) (fc br : Int) : Prop := fw_g w o (.inl (1, [.ref t, .ref wa, .int (iI fc), .int (iI br)])) ∧ tb w t a n D ∧ (∃ f, fw_g w wa (.inr (6, .inl f))) ∧ wa ≠ a
theorem lst.ot {w : fw_S} {o t a wa n : Nat} {D : Nat → Nat → Int} {fc br : Int} (h : lst w o t a wa n D fc br) : o ≠ t ∧ o ≠ a ∧ o ≠ wa ∧ wa ≠ t ∧ t ≠ a := by
  obtain ⟨h1, ⟨h2, ⟨f, h3, -⟩, -⟩, ⟨g, h4⟩, h5⟩ := h
  exact ⟨fun q => (by subst q; have := h1.inj h2; cases this), h1.oa h3, h1.oa h4, (h2.oa h4).symm, h2.oa h3⟩
theorem lst.up {w : fw_S} {o t a wa n : Nat} {D : Nat → Nat → Int} {fc br : Int} (h : lst w o t a wa n D fc br) (fc' br' : Int) : lst (fw_up w o (.inl (1, [.ref t, .ref wa, .int (iI fc'), .int (iI br')]))) o t a wa n D fc' br' := by
  have hn := h.ot
  obtain ⟨h1, h2, ⟨g, h4⟩, h5⟩ := h
  exact ⟨h1.up _, h2.kp (kp.up w o _) (fun q => hn.1 q.symm) (fun q => hn.2.1 q.symm), ⟨g, h4.ne _ hn.2.2.1.symm⟩, h5⟩
theorem c_note {d o t a wa n : Nat} {D : Nat → Nat → Int} {fc br : Int} {w : fw_S} (h : lst w o t a wa n D fc br) (hb : 0 ≤ br ∧ br ≤ 100000) (z : Int) : ∃ w', fw_K d mX1_note [.ref o, .int (iI z)] w none w' ∧ lst w' o t a wa n D (if br = 0 then z else fc) (br + 1) ∧ kp w w' (fun k => k = o) := by
  have h1 := h.1
  by_cases hb0 : br = 0
  · have h2 := h.up z br
    have h3 := h2.up z (br + 1)
    refine ⟨_, ?_, by rw [if_pos hb0]; exact h3, (kp.up _ _ _).trans (kp.up _ _ _)⟩
    refine fw_K.of (by decide) (Nat.le_of_ble_eq_true rfl) (by simp [Value.category]) (rfl) ?_
    show fw_R _ _ 0 [some (.ref o), some (.int (iI z))] [] _ _ _
    refine fr_aload_n dX1_note_0 rfl ?_
    refine fr_get fX1_note_1 h1 rfl ?_
    refine fr_if_ne (tgt := 12) dX1_note_4 (by decide) (by omega) (fun c => ?_) (fun c => ?_)
    · omega
    · refine fr_aload_n dX1_note_7 rfl ?_
      refine fr_iload_n dX1_note_8 rfl ?_
      refine fr_put fX1_note_9 pfX1_2 h1 (by simp) rfl ?_
      dsimp only [List.set, Option.toList, List.cons_append, List.nil_append]
      refine fr_aload_n dX1_note_12 rfl ?_
      refine fr_dup dX1_note_13 rfl ?_
      refine fr_get fX1_note_14 h2.1 rfl ?_
      refine fr_iconst dX1_note_17 ?_
      refine fr_iadd dX1_note_18 ?_
      refine fr_put fX1_note_19 pfX1_3 h2.1 (by simp) rfl ?_
      dsimp only [List.set, Option.toList, List.cons_append, List.nil_append]
      exact fr_vret dX1_note_22 rfl rfl (rfl)
  · have h3 := h.up fc (br + 1)
    refine ⟨_, ?_, by rw [if_neg hb0]; exact h3, (kp.up _ _ _)⟩
    refine fw_K.of (by decide) (Nat.le_of_ble_eq_true rfl) (by simp [Value.category]) (rfl) ?_
    show fw_R _ _ 0 [some (.ref o), some (.int (iI z))] [] _ _ _
    refine fr_aload_n dX1_note_0 rfl ?_
    refine fr_get fX1_note_1 h1 rfl ?_
    refine fr_if_ne (tgt := 12) dX1_note_4 (by decide) (by omega) (fun c => ?_) (fun c => ?_)
    · refine fr_aload_n dX1_note_12 rfl ?_
      refine fr_dup dX1_note_13 rfl ?_
      refine fr_get fX1_note_14 h1 rfl ?_
      refine fr_iconst dX1_note_17 ?_
      refine fr_iadd dX1_note_18 ?_
      refine fr_put fX1_note_19 pfX1_3 h1 (by simp) rfl ?_
      dsimp only [List.set, Option.toList, List.cons_append, List.nil_append]
      exact fr_vret dX1_note_22 rfl rfl (rfl)
    · omega
theorem c_noteS {d o t a wa n m : Nat} {D : Nat → Nat → Int} {p : Nat → Bool} {w : fw_S} (h : lst w o t a wa n D (scF p m) (scC p m)) (hm : m ≤ 100000) (hp : p m = true) : ∃ w', fw_K d mX1_note [.ref o, .int (iI m)] w none w' ∧ lst w' o t a wa n D (scF p (m + 1)) (scC p (m + 1)) ∧ kp w w' (fun k => k = o) := by
  have hr := scC_r p m
  obtain ⟨w', k1, k2, k3⟩ := c_note (d := d) h ⟨by omega, by omega⟩ (m : Int)
  refine ⟨w', k1, ?_, k3⟩
  rw [scC_s, scF_s, hp]
  simp only [true_and, if_true]
  exact k2
def alone (x y z : Int) : Bool := decide (x > max y z ∨ y > max x z ∨ z > max x y)
theorem c_alone {d : Nat} {w : fw_S} {x y z : Int} (hd : 1 ≤ d) (hx : 0 ≤ x ∧ x ≤ 1000) (hy : 0 ≤ y ∧ y ≤ 1000) (hz : 0 ≤ z ∧ z ≤ 1000) : fw_K d mX1_greatestIsAlone [.int (iI x), .int (iI y), .int (iI z)] w (some (.int (iI (b2 (alone x y z))))) w := by
  refine fw_K.of (by decide) (Nat.le_of_ble_eq_true rfl) (by simp [Value.category]) (rfl) ?_
  show fw_R _ _ 0 [some (.int (iI x)), some (.int (iI y)), some (.int (iI z))] [] _ _ _
  refine fr_iload_n dX1_greatestIsAlone_0 rfl ?_
  refine fr_iload_n dX1_greatestIsAlone_1 rfl ?_
  refine fr_iload_n dX1_greatestIsAlone_2 rfl ?_
  refine fr_max kX1_greatestIsAlone_3 (by omega) (by omega) rfl (by omega) ?_
  refine fr_icmp_gt (tgt := 27) dX1_greatestIsAlone_6 (by decide) (by omega) (by omega) (fun c => ?_) (fun c => ?_)
  · refine fr_iconst dX1_greatestIsAlone_27 ?_
    refine fr_goto (tgt := 32) dX1_greatestIsAlone_28 (by decide) ?_
    exact fr_zret dX1_greatestIsAlone_32 rfl (by decide) (by rw [show alone x y z = true by unfold alone; simp only [decide_eq_true_eq]; omega]; rfl) (rfl)
  · refine fr_iload_n dX1_greatestIsAlone_9 rfl ?_
    refine fr_iload_n dX1_greatestIsAlone_10 rfl ?_
    refine fr_iload_n dX1_greatestIsAlone_11 rfl ?_
    refine fr_max kX1_greatestIsAlone_12 (by omega) (by omega) rfl (by omega) ?_
    refine fr_icmp_gt (tgt := 27) dX1_greatestIsAlone_15 (by decide) (by omega) (by omega) (fun c2 => ?_) (fun c2 => ?_)
    · refine fr_iconst dX1_greatestIsAlone_27 ?_
      refine fr_goto (tgt := 32) dX1_greatestIsAlone_28 (by decide) ?_
      exact fr_zret dX1_greatestIsAlone_32 rfl (by decide) (by rw [show alone x y z = true by unfold alone; simp only [decide_eq_true_eq]; omega]; rfl) (rfl)
    · refine fr_iload_n dX1_greatestIsAlone_18 rfl ?_
      refine fr_iload_n dX1_greatestIsAlone_19 rfl ?_
      refine fr_iload_n dX1_greatestIsAlone_20 rfl ?_
      refine fr_max kX1_greatestIsAlone_21 (by omega) (by omega) rfl (by omega) ?_
      refine fr_icmp_le (tgt := 31) dX1_greatestIsAlone_24 (by decide) (by omega) (by omega) (fun c3 => ?_) (fun c3 => ?_)
      · refine fr_iconst dX1_greatestIsAlone_31 ?_
        exact fr_zret dX1_greatestIsAlone_32 rfl (by decide) (by rw [show alone x y z = false by unfold alone; simp only [decide_eq_false_iff_not]; omega]; rfl) (rfl)
      · refine fr_iconst dX1_greatestIsAlone_27 ?_
        refine fr_goto (tgt := 32) dX1_greatestIsAlone_28 (by decide) ?_
        exact fr_zret dX1_greatestIsAlone_32 rfl (by decide) (by rw [show alone x y z = true by unfold alone; simp only [decide_eq_true_eq]; omega]; rfl) (rfl)
theorem c_sumsStickOut {d o t a wa n i j k l : Nat} {D : Nat → Nat → Int} {fc br : Int} {w : fw_S} (hd : 2 ≤ d) (h : lst w o t a wa n D fc br) (hD : okR n D 60) (hi : i < n) (hj : j < n) (hk : k < n) (hl : l < n) : fw_K d mX1_sumsStickOut [.ref o, .int (iI i), .int (iI j), .int (iI k), .int (iI l)] w (some (.int (iI (b2 (alone (D i j + D k l) (D i k + D j l) (D i l + D j k)))))) w := by
  have h1 := h.1
  have h2 := h.2.1
  have h3 := h2.1
  have d1 := hD i j hi hj
  have d2 := hD k l hk hl
  have d3 := hD i k hi hk
  have d4 := hD j l hj hl
  have d5 := hD i l hi hl
  have d6 := hD j k hj hk
  refine fw_K.of (by decide) (Nat.le_of_ble_eq_true rfl) (by simp [Value.category]) (rfl) ?_
  show fw_R _ _ 0 [some (.ref o), some (.int (iI i)), some (.int (iI j)), some (.int (iI k)), some (.int (iI l))] [] _ _ _
  refine fr_aload_n dX1_sumsStickOut_0 rfl ?_
  refine fr_get fX1_sumsStickOut_1 h1 rfl ?_
  refine fr_iload_n dX1_sumsStickOut_4 rfl ?_
  refine fr_iload_n dX1_sumsStickOut_5 rfl ?_
  refine fr_callV kX1_sumsStickOut_6 (c_between (d := 0) h2 hi hj) (by omega) h3 rfl rfl rfl ?_
  dsimp only [List.set, Option.toList, List.cons_append, List.nil_append]
  refine fr_aload_n dX1_sumsStickOut_9 rfl ?_
  refine fr_get fX1_sumsStickOut_10 h1 rfl ?_
  refine fr_iload_n dX1_sumsStickOut_13 rfl ?_
  refine fr_iload dX1_sumsStickOut_14 rfl ?_
  refine fr_callV kX1_sumsStickOut_16 (c_between (d := 0) h2 hk hl) (by omega) h3 rfl rfl rfl ?_
  dsimp only [List.set, Option.toList, List.cons_append, List.nil_append]
  refine fr_iadd dX1_sumsStickOut_19 ?_
  refine fr_aload_n dX1_sumsStickOut_20 rfl ?_
  refine fr_get fX1_sumsStickOut_21 h1 rfl ?_
  refine fr_iload_n dX1_sumsStickOut_24 rfl ?_
  refine fr_iload_n dX1_sumsStickOut_25 rfl ?_
  refine fr_callV kX1_sumsStickOut_26 (c_between (d := 0) h2 hi hk) (by omega) h3 rfl rfl rfl ?_
  dsimp only [List.set, Option.toList, List.cons_append, List.nil_append]
  refine fr_aload_n dX1_sumsStickOut_29 rfl ?_
  refine fr_get fX1_sumsStickOut_30 h1 rfl ?_
  refine fr_iload_n dX1_sumsStickOut_33 rfl ?_
  refine fr_iload dX1_sumsStickOut_34 rfl ?_
  refine fr_callV kX1_sumsStickOut_36 (c_between (d := 0) h2 hj hl) (by omega) h3 rfl rfl rfl ?_
  dsimp only [List.set, Option.toList, List.cons_append, List.nil_append]
  refine fr_iadd dX1_sumsStickOut_39 ?_
  refine fr_aload_n dX1_sumsStickOut_40 rfl ?_
  refine fr_get fX1_sumsStickOut_41 h1 rfl ?_
  refine fr_iload_n dX1_sumsStickOut_44 rfl ?_
  refine fr_iload dX1_sumsStickOut_45 rfl ?_
  refine fr_callV kX1_sumsStickOut_47 (c_between (d := 0) h2 hi hl) (by omega) h3 rfl rfl rfl ?_
  dsimp only [List.set, Option.toList, List.cons_append, List.nil_append]
  refine fr_aload_n dX1_sumsStickOut_50 rfl ?_
  refine fr_get fX1_sumsStickOut_51 h1 rfl ?_
  refine fr_iload_n dX1_sumsStickOut_54 rfl ?_
  refine fr_iload_n dX1_sumsStickOut_55 rfl ?_
  refine fr_callV kX1_sumsStickOut_56 (c_between (d := 0) h2 hj hk) (by omega) h3 rfl rfl rfl ?_
  dsimp only [List.set, Option.toList, List.cons_append, List.nil_append]
  refine fr_iadd dX1_sumsStickOut_59 ?_
  refine fr_callS kX1_sumsStickOut_60 (c_alone (d := 1) (by omega) (by omega) (by omega) (by omega)) (by omega) rfl rfl rfl ?_
  dsimp only [List.set, Option.toList, List.cons_append, List.nil_append]
  exact fr_zret dX1_sumsStickOut_63 rfl (b2_nar _) rfl rfl
end
section
/-! the judges of laws 0, 1, 2 -/
def p0 (n : Nat) (D : Nat → Nat → Int) (x : Nat) : Bool := decide (x / 64 % 8 < n ∧ x / 8 % 8 < n ∧ x % 8 < n ∧ x / 64 % 8 < x % 8 ∧ x / 8 % 8 ≠ x / 64 % 8 ∧ x / 8 % 8 ≠ x % 8 ∧ D (x / 64 % 8) (x % 8) > D (x / 64 % 8) (x / 8 % 8) + D (x / 8 % 8) (x % 8))
def p2 (n : Nat) (D : Nat → Nat → Int) (x : Nat) : Bool := decide (x % 8 < n ∧ x / 64 % 8 < x / 8 % 8 ∧ x / 8 % 8 < x % 8 ∧ alone (D (x / 64 % 8) (x / 8 % 8)) (D (x / 64 % 8) (x % 8)) (D (x / 8 % 8) (x % 8)) = true)
def p1 (n : Nat) (D : Nat → Nat → Int) (x : Nat) : Bool := decide (x % 8 < n ∧ x / 512 < x / 64 % 8 ∧ x / 64 % 8 < x / 8 % 8 ∧ x / 8 % 8 < x % 8 ∧ alone (D (x / 512) (x / 64 % 8) + D (x / 8 % 8) (x % 8)) (D (x / 512) (x / 8 % 8) + D (x / 64 % 8) (x % 8)) (D (x / 512) (x % 8) + D (x / 64 % 8) (x / 8 % 8)) = true)
theorem dg3 (q : Nat) : q / 64 = q / 8 / 8 ∧ q = 64 * (q / 64) + 8 * (q / 8 % 8) + q % 8 := by
  have h : q / 64 = q / 8 / 8 := by rw [Nat.div_div_eq_div_mul]
  omega
theorem p0_a {n i j q : Nat} {D : Nat → Nat → Int} (hi : i < 8) (hj : j < 6) (h1 : 64 * i + 8 * j ≤ q) (h2 : q < 64 * i + 8 * j + (i + 1)) : p0 n D q = false := by
  unfold p0
  simp only [decide_eq_false_iff_not]
  intro z
  have a1 : q / 64 = i := by omega
  have a2 : q / 64 % 8 = i := by rw [a1]; exact Nat.mod_eq_of_lt (by omega)
  have a3 : q / 8 = 8 * i + j := by omega
  have a4 : q % 8 ≤ i := by omega
  have a5 := z.2.2.2.1
  rw [a2] at a5
  omega
theorem p2_e {n q : Nat} {D : Nat → Nat → Int} (h1 : 64 * n ≤ q) (h2 : q < 512) : p2 n D q = false := by
  unfold p2
  simp only [decide_eq_false_iff_not]
  intro z
  have a1 : q / 64 < 8 := by omega
  have a2 : q / 64 % 8 = q / 64 := Nat.mod_eq_of_lt a1
  have a3 : n ≤ q / 64 := by omega
  have a4 := z.2.1
  have a5 := z.2.2.1
  have a6 := z.1
  rw [a2] at a4
  omega
theorem or_2 : ∀ i : Nat, i < 8 → ∀ j : Nat, j < 8 → (i * 2 ^ 6) ||| (j * 2 ^ 3) = 64 * i + 8 * j := by decide +kernel
theorem or_1 : ∀ x : Nat, x < 512 → ∀ k : Nat, k < 8 → (8 * x) ||| k = 8 * x + k := by decide +kernel
theorem or_3 : ∀ i : Nat, i < 8 → ∀ j : Nat, j < 8 → (i * 2 ^ 9) ||| (j * 2 ^ 6) = 512 * i + 64 * j := by decide +kernel
theorem or_4 : ∀ x : Nat, x < 64 → ∀ k : Nat, k < 8 → (64 * x) ||| (k * 2 ^ 3) = 64 * x + 8 * k := by decide +kernel
theorem iI_sh (m k : Nat) (h : m < 8) (hk : k < 10) : iI m <<< (iI (k : Int) &&& 31) = iI ((m * 2 ^ k : Nat) : Int) := by
  have : 2 ^ k ≤ 2 ^ 10 := Nat.pow_le_pow_right (by decide) (by omega)
  exact iI_shl k (by have := Nat.mul_le_mul (show m ≤ 7 by omega) this; omega) (by omega)
theorem c_judgeDetours {d o t a wa n : Nat} {D : Nat → Nat → Int} {w : fw_S} (hd : 2 ≤ d) (h : lst w o t a wa n D (-4) 0) (hD : okR n D 60) : ∃ w', fw_K d mX1_judgeDetours [.ref o] w none w' ∧ lst w' o t a wa n D (scF (p0 n D) 512) (scC (p0 n D) 512) ∧ kp w w' (fun k => k = o) := by
  have hn := h.2.1.2.2
  have skip : ∀ {v : fw_S} {m m' : Nat}, lst v o t a wa n D (scF (p0 n D) m) (scC (p0 n D) m) → m ≤ m' → (∀ k, m ≤ k → k < m' → p0 n D k = false) → lst v o t a wa n D (scF (p0 n D) m') (scC (p0 n D) m') := by
    intro v m m' hl hm hk
    obtain ⟨e1, e2⟩ := sc_skip hm hk
    rw [e1, e2]; exact hl
  have outer := lpE (M := mX1_judgeDetours) (d := d) (pcH := 10) n (fun i _ => [some (.ref o), some (.int (iI n)), some (.int (iI i)), none, none]) (fun i (_ : Unit) v => lst v o t a wa n D (scF (p0 n D) (64 * i)) (scC (p0 n D) (64 * i)) ∧ kp w v (fun k => k = o)) (by
    intro i _ v hi ⟨g1, g2⟩
    have mid := lpE (M := mX1_judgeDetours) (d := d) (pcH := 17) n (fun j _ => [some (.ref o), some (.int (iI n)), some (.int (iI i)), some (.int (iI j)), none]) (fun j (_ : Unit) v => lst v o t a wa n D (scF (p0 n D) (64 * i + 8 * j)) (scC (p0 n D) (64 * i + 8 * j)) ∧ kp w v (fun k => k = o)) (by
      intro j _ v hj ⟨g1, g2⟩
      have inner := lpE (M := mX1_judgeDetours) (d := d) (pcH := 27) n (fun k _ => [some (.ref o), some (.int (iI n)), some (.int (iI i)), some (.int (iI j)), some (.int (iI k))]) (fun k (_ : Unit) v => i < k ∧ lst v o t a wa n D (scF (p0 n D) (64 * i + 8 * j + k)) (scC (p0 n D) (64 * i + 8 * j + k)) ∧ kp w v (fun k => k = o)) (by
        intro k _ v hk ⟨hik, g1, g2⟩
        have hx1 : (64 * i + 8 * j + k) / 64 % 8 = i := by omega
        have hx2 : (64 * i + 8 * j + k) / 8 % 8 = j := by omega
        have hx3 : (64 * i + 8 * j + k) % 8 = k := by omega
        have d1 := hD i k hi hk
        have d2 := hD i j hi hj
        have d3 := hD j k hj hk
        have hg1 := g1.1
        have hg2 := g1.2.1
        have hg3 := hg2.1
        by_cases hb : j ≠ i ∧ j ≠ k ∧ D i k > D i j + D j k
        · have hp : p0 n D (64 * i + 8 * j + k) = true := by
            unfold p0; rw [hx1, hx2, hx3]; simp only [decide_eq_true_eq]; exact ⟨hi, hj, hk, hik, hb.1, hb.2.1, hb.2.2⟩
          obtain ⟨w1, k1, k2, k3⟩ := c_noteS (d := 0) g1 (by omega) hp
          rw [show ((64 * i + 8 * j + k : Nat) : Int) = (((64 * i + 8 * j + k : Nat)) : Int) from rfl] at k1
          refine ⟨(), w1, ⟨by omega, k2, g2.trans k3⟩, ?_⟩
          intro r w' kk
          refine fr_iload dX1_judgeDetours_27 rfl ?_
          refine fr_iload_n dX1_judgeDetours_29 rfl ?_
          refine fr_icmp_ge (tgt := 98) dX1_judgeDetours_30 (by decide) (by omega) (by omega) (fun c => ?_) (fun c => ?_)
          · omega
          refine fr_iload_n dX1_judgeDetours_33 rfl ?_
          refine fr_iload_n dX1_judgeDetours_34 rfl ?_
          refine fr_icmp_eq (tgt := 92) dX1_judgeDetours_35 (by decide) (by omega) (by omega) (fun c => ?_) (fun c => ?_)
          · omega
          refine fr_iload_n dX1_judgeDetours_38 rfl ?_
          refine fr_iload dX1_judgeDetours_39 rfl ?_
          refine fr_icmp_eq (tgt := 92) dX1_judgeDetours_41 (by decide) (by omega) (by omega) (fun c => ?_) (fun c => ?_)
          · omega
          refine fr_aload_n dX1_judgeDetours_44 rfl ?_
          refine fr_get fX1_judgeDetours_45 hg1 rfl ?_
          refine fr_iload_n dX1_judgeDetours_48 rfl ?_
          refine fr_iload dX1_judgeDetours_49 rfl ?_
          refine fr_callV kX1_judgeDetours_51 (c_between (d := 0) hg2 hi hk) (by omega) hg3 rfl rfl rfl ?_
          dsimp only [List.set, Option.toList, List.cons_append, List.nil_append]
          refine fr_aload_n dX1_judgeDetours_54 rfl ?_
          refine fr_get fX1_judgeDetours_55 hg1 rfl ?_
          refine fr_iload_n dX1_judgeDetours_58 rfl ?_
          refine fr_iload_n dX1_judgeDetours_59 rfl ?_
          refine fr_callV kX1_judgeDetours_60 (c_between (d := 0) hg2 hi hj) (by omega) hg3 rfl rfl rfl ?_
          dsimp only [List.set, Option.toList, List.cons_append, List.nil_append]
          refine fr_aload_n dX1_judgeDetours_63 rfl ?_
          refine fr_get fX1_judgeDetours_64 hg1 rfl ?_
          refine fr_iload_n dX1_judgeDetours_67 rfl ?_
          refine fr_iload dX1_judgeDetours_68 rfl ?_
          refine fr_callV kX1_judgeDetours_70 (c_between (d := 0) hg2 hj hk) (by omega) hg3 rfl rfl rfl ?_
          dsimp only [List.set, Option.toList, List.cons_append, List.nil_append]
          refine fr_iadd dX1_judgeDetours_73 ?_
          refine fr_icmp_le (tgt := 92) dX1_judgeDetours_74 (by decide) (by omega) (by omega) (fun c => ?_) (fun c => ?_)
          · omega
          refine fr_aload_n dX1_judgeDetours_77 rfl ?_
          refine fr_iload_n dX1_judgeDetours_78 rfl ?_
          refine fr_bipush dX1_judgeDetours_79 (by decide) ?_
          refine fr_ishl (((i * 2 ^ 6 : Nat) : Int)) dX1_judgeDetours_81 (iI_sh i 6 (by omega) (by decide)) ?_
          refine fr_iload_n dX1_judgeDetours_82 rfl ?_
          refine fr_iconst dX1_judgeDetours_83 ?_
          refine fr_ishl (((j * 2 ^ 3 : Nat) : Int)) dX1_judgeDetours_84 (iI_sh j 3 (by omega) (by decide)) ?_
          refine fr_ior (((64 * i + 8 * j : Nat) : Int)) dX1_judgeDetours_85 (by rw [iI_or, or_2 i (by omega) j (by omega)]) ?_
          refine fr_iload dX1_judgeDetours_86 rfl ?_
          refine fr_ior (((64 * i + 8 * j + k : Nat) : Int)) dX1_judgeDetours_88 (by rw [iI_or, show 64 * i + 8 * j = 8 * (8 * i + j) by omega, or_1 (8 * i + j) (by omega) k (by omega)]) ?_
          refine fr_callV kX1_judgeDetours_89 (k1) (by omega) hg1 rfl rfl rfl ?_
          dsimp only [List.set, Option.toList, List.cons_append, List.nil_append]
          refine fr_iinc dX1_judgeDetours_92 rfl (by decide) rfl rfl ?_
          dsimp only [List.set, Option.toList, List.cons_append, List.nil_append]
          refine fr_goto (tgt := 27) dX1_judgeDetours_95 (by decide) ?_
          exact kk
        · have hp : p0 n D (64 * i + 8 * j + k) = false := by
            unfold p0; rw [hx1, hx2, hx3]; simp only [decide_eq_false_iff_not]; exact fun z => hb ⟨z.2.2.2.2.1, z.2.2.2.2.2.1, z.2.2.2.2.2.2⟩
          refine ⟨(), v, ⟨by omega, skip g1 (by omega) (fun q h1 h2 => by rw [show q = 64 * i + 8 * j + k by omega]; exact hp), g2⟩, ?_⟩
          intro r w' kk
          have done : fw_R mX1_judgeDetours d 92 [some (.ref o), some (.int (iI n)), some (.int (iI i)), some (.int (iI j)), some (.int (iI k))] [] v r w' := by
            refine fr_iinc dX1_judgeDetours_92 rfl (by decide) rfl rfl ?_
            dsimp only [List.set, Option.toList, List.cons_append, List.nil_append]
            refine fr_goto (tgt := 27) dX1_judgeDetours_95 (by decide) ?_
            exact kk
          refine fr_iload dX1_judgeDetours_27 rfl ?_
          refine fr_iload_n dX1_judgeDetours_29 rfl ?_
          refine fr_icmp_ge (tgt := 98) dX1_judgeDetours_30 (by decide) (by omega) (by omega) (fun c => ?_) (fun c => ?_)
          · omega
          refine fr_iload_n dX1_judgeDetours_33 rfl ?_
          refine fr_iload_n dX1_judgeDetours_34 rfl ?_
          refine fr_icmp_eq (tgt := 92) dX1_judgeDetours_35 (by decide) (by omega) (by omega) (fun c2 => ?_) (fun c2 => ?_)
          · exact done
          refine fr_iload_n dX1_judgeDetours_38 rfl ?_
          refine fr_iload dX1_judgeDetours_39 rfl ?_
          refine fr_icmp_eq (tgt := 92) dX1_judgeDetours_41 (by decide) (by omega) (by omega) (fun c3 => ?_) (fun c3 => ?_)
          · exact done
          refine fr_aload_n dX1_judgeDetours_44 rfl ?_
          refine fr_get fX1_judgeDetours_45 hg1 rfl ?_
          refine fr_iload_n dX1_judgeDetours_48 rfl ?_
          refine fr_iload dX1_judgeDetours_49 rfl ?_
          refine fr_callV kX1_judgeDetours_51 (c_between (d := 0) hg2 hi hk) (by omega) hg3 rfl rfl rfl ?_
          dsimp only [List.set, Option.toList, List.cons_append, List.nil_append]
          refine fr_aload_n dX1_judgeDetours_54 rfl ?_
          refine fr_get fX1_judgeDetours_55 hg1 rfl ?_
          refine fr_iload_n dX1_judgeDetours_58 rfl ?_
          refine fr_iload_n dX1_judgeDetours_59 rfl ?_
          refine fr_callV kX1_judgeDetours_60 (c_between (d := 0) hg2 hi hj) (by omega) hg3 rfl rfl rfl ?_
          dsimp only [List.set, Option.toList, List.cons_append, List.nil_append]
          refine fr_aload_n dX1_judgeDetours_63 rfl ?_
          refine fr_get fX1_judgeDetours_64 hg1 rfl ?_
          refine fr_iload_n dX1_judgeDetours_67 rfl ?_
          refine fr_iload dX1_judgeDetours_68 rfl ?_
          refine fr_callV kX1_judgeDetours_70 (c_between (d := 0) hg2 hj hk) (by omega) hg3 rfl rfl rfl ?_
          dsimp only [List.set, Option.toList, List.cons_append, List.nil_append]
          refine fr_iadd dX1_judgeDetours_73 ?_
          refine fr_icmp_le (tgt := 92) dX1_judgeDetours_74 (by decide) (by omega) (by omega) (fun c4 => ?_) (fun c4 => ?_)
          · exact done
          · exact absurd ⟨by omega, by omega, by omega⟩ hb)
      obtain ⟨_, wE, ⟨-, e1, e2⟩, hr⟩ := inner (i + 1) () v (by omega) ⟨by omega, skip g1 (by omega) (fun q h1 h2 => p0_a (by omega) (by omega) h1 h2), g2⟩
      refine ⟨(), wE, ⟨skip e1 (by omega) (fun q h1 h2 => by unfold p0; simp only [decide_eq_false_iff_not]; intro z; have h9 := dg3 q; omega), e2⟩, ?_⟩
      intro r w' kk
      refine fr_iload_n dX1_judgeDetours_17 rfl ?_
      refine fr_iload_n dX1_judgeDetours_18 rfl ?_
      refine fr_icmp_ge (tgt := 104) dX1_judgeDetours_19 (by decide) (by omega) (by omega) (fun c => ?_) (fun c => ?_)
      · omega
      refine fr_iload_n dX1_judgeDetours_22 rfl ?_
      refine fr_iconst dX1_judgeDetours_23 ?_
      refine fr_iadd dX1_judgeDetours_24 ?_
      refine fr_istore dX1_judgeDetours_25 (by decide) rfl rfl ?_
      dsimp only [List.set, Option.toList, List.cons_append, List.nil_append]
      refine hr r w' ?_
      refine fr_iload dX1_judgeDetours_27 rfl ?_
      refine fr_iload_n dX1_judgeDetours_29 rfl ?_
      refine fr_icmp_ge (tgt := 98) dX1_judgeDetours_30 (by decide) (by omega) (by omega) (fun c => ?_) (fun c => ?_)
      · refine fr_iinc dX1_judgeDetours_98 rfl (by decide) rfl rfl ?_
        dsimp only [List.set, Option.toList, List.cons_append, List.nil_append]
        refine fr_goto (tgt := 17) dX1_judgeDetours_101 (by decide) ?_
        exact kk.wk (by simp [fw_le])
      · omega)
    obtain ⟨_, wE, ⟨e1, e2⟩, hr⟩ := mid 0 () v (Nat.zero_le _) ⟨g1, g2⟩
    refine ⟨(), wE, ⟨skip e1 (by omega) (fun q h1 h2 => by unfold p0; simp only [decide_eq_false_iff_not]; intro z; have h9 := dg3 q; omega), e2⟩, ?_⟩
    intro r w' kk
    refine fr_iload_n dX1_judgeDetours_10 rfl ?_
    refine fr_iload_n dX1_judgeDetours_11 rfl ?_
    refine fr_icmp_ge (tgt := 110) dX1_judgeDetours_12 (by decide) (by omega) (by omega) (fun c => ?_) (fun c => ?_)
    · omega
    refine fr_iconst dX1_judgeDetours_15 ?_
    refine fr_istore_n dX1_judgeDetours_16 rfl (by decide) rfl rfl ?_
    dsimp only [List.set, Option.toList, List.cons_append, List.nil_append]
    refine hr r w' ?_
    refine fr_iload_n dX1_judgeDetours_17 rfl ?_
    refine fr_iload_n dX1_judgeDetours_18 rfl ?_
    refine fr_icmp_ge (tgt := 104) dX1_judgeDetours_19 (by decide) (by omega) (by omega) (fun c => ?_) (fun c => ?_)
    · refine fr_iinc dX1_judgeDetours_104 rfl (by decide) rfl rfl ?_
      dsimp only [List.set, Option.toList, List.cons_append, List.nil_append]
      refine fr_goto (tgt := 10) dX1_judgeDetours_107 (by decide) ?_
      exact kk.wk (by simp [fw_le])
    · omega)
  obtain ⟨_, wE, ⟨e1, e2⟩, hr⟩ := outer 0 () w (Nat.zero_le _) ⟨h, kp.rf⟩
  refine ⟨wE, ?_, skip e1 (by omega) (fun q h1 h2 => by unfold p0; simp only [decide_eq_false_iff_not]; intro z; have h9 := dg3 q; omega), e2⟩
  refine fw_K.of (by decide) (Nat.le_of_ble_eq_true rfl) (by simp [Value.category]) (e2.1) ?_
  show fw_R _ _ 0 [some (.ref o), none, none, none, none] [] _ _ _
  have h1 := h.1
  have h3 := h.2.1.1
  refine fr_aload_n dX1_judgeDetours_0 rfl ?_
  refine fr_get fX1_judgeDetours_1 h1 rfl ?_
  refine fr_get fX1_judgeDetours_4 h3 rfl ?_
  refine fr_istore_n dX1_judgeDetours_7 rfl (by decide) rfl rfl ?_
  dsimp only [List.set, Option.toList, List.cons_append, List.nil_append]
  refine fr_iconst dX1_judgeDetours_8 ?_
  refine fr_istore_n dX1_judgeDetours_9 rfl (by decide) rfl rfl ?_
  dsimp only [List.set, Option.toList, List.cons_append, List.nil_append]
  refine hr _ _ ?_
  refine fr_iload_n dX1_judgeDetours_10 rfl ?_
  refine fr_iload_n dX1_judgeDetours_11 rfl ?_
  refine fr_icmp_ge (tgt := 110) dX1_judgeDetours_12 (by decide) (by omega) (by omega) (fun c => ?_) (fun c => ?_)
  · exact fr_vret dX1_judgeDetours_110 rfl rfl (rfl)
  · omega
theorem c_judgeNests {d o t a wa n : Nat} {D : Nat → Nat → Int} {w : fw_S} (hd : 2 ≤ d) (h : lst w o t a wa n D (-4) 0) (hD : okR n D 60) : ∃ w', fw_K d mX1_judgeNests [.ref o] w none w' ∧ lst w' o t a wa n D (scF (p2 n D) 512) (scC (p2 n D) 512) ∧ kp w w' (fun k => k = o) := by
  have hn := h.2.1.2.2
  have skip : ∀ {v : fw_S} {m m' : Nat}, lst v o t a wa n D (scF (p2 n D) m) (scC (p2 n D) m) → m ≤ m' → (∀ k, m ≤ k → k < m' → p2 n D k = false) → lst v o t a wa n D (scF (p2 n D) m') (scC (p2 n D) m') := by
    intro v m m' hl hm hk
    obtain ⟨e1, e2⟩ := sc_skip hm hk
    rw [e1, e2]; exact hl
  have outer := lpE (M := mX1_judgeNests) (d := d) (pcH := 10) n (fun i _ => [some (.ref o), some (.int (iI n)), some (.int (iI i)), none, none]) (fun i (_ : Unit) v => lst v o t a wa n D (scF (p2 n D) (64 * i)) (scC (p2 n D) (64 * i)) ∧ kp w v (fun k => k = o)) (by
    intro i _ v hi ⟨g1, g2⟩
    have mid := lpE (M := mX1_judgeNests) (d := d) (pcH := 19) n (fun j _ => [some (.ref o), some (.int (iI n)), some (.int (iI i)), some (.int (iI j)), none]) (fun j (_ : Unit) v => i < j ∧ lst v o t a wa n D (scF (p2 n D) (64 * i + 8 * j)) (scC (p2 n D) (64 * i + 8 * j)) ∧ kp w v (fun k => k = o)) (by
      intro j _ v hj ⟨hij, g1, g2⟩
      have inner := lpE (M := mX1_judgeNests) (d := d) (pcH := 29) n (fun k _ => [some (.ref o), some (.int (iI n)), some (.int (iI i)), some (.int (iI j)), some (.int (iI k))]) (fun k (_ : Unit) v => j < k ∧ lst v o t a wa n D (scF (p2 n D) (64 * i + 8 * j + k)) (scC (p2 n D) (64 * i + 8 * j + k)) ∧ kp w v (fun k => k = o)) (by
        intro k _ v hk ⟨hjk, g1, g2⟩
        have hx1 : (64 * i + 8 * j + k) / 64 % 8 = i := by omega
        have hx2 : (64 * i + 8 * j + k) / 8 % 8 = j := by omega
        have hx3 : (64 * i + 8 * j + k) % 8 = k := by omega
        have d1 := hD i k hi hk
        have d2 := hD i j hi hj
        have d3 := hD j k hj hk
        have hg1 := g1.1
        have hg2 := g1.2.1
        have hg3 := hg2.1
        have rb := b2_r (alone (D i j) (D i k) (D j k))
        cases hb : alone (D i j) (D i k) (D j k) with
        | true =>
          have hp : p2 n D (64 * i + 8 * j + k) = true := by
            unfold p2; rw [hx1, hx2, hx3]; simp only [decide_eq_true_eq]; exact ⟨hk, hij, hjk, hb⟩
          obtain ⟨w1, k1, k2, k3⟩ := c_noteS (d := 0) g1 (by omega) hp
          refine ⟨(), w1, ⟨by omega, k2, g2.trans k3⟩, ?_⟩
          intro r w' kk
          refine fr_iload dX1_judgeNests_29 rfl ?_
          refine fr_iload_n dX1_judgeNests_31 rfl ?_
          refine fr_icmp_ge (tgt := 91) dX1_judgeNests_32 (by decide) (by omega) (by omega) (fun c => ?_) (fun c => ?_)
          · omega
          refine fr_aload_n dX1_judgeNests_35 rfl ?_
          refine fr_get fX1_judgeNests_36 hg1 rfl ?_
          refine fr_iload_n dX1_judgeNests_39 rfl ?_
          refine fr_iload_n dX1_judgeNests_40 rfl ?_
          refine fr_callV kX1_judgeNests_41 (c_between (d := 0) hg2 hi hj) (by omega) hg3 rfl rfl rfl ?_
          dsimp only [List.set, Option.toList, List.cons_append, List.nil_append]
          refine fr_aload_n dX1_judgeNests_44 rfl ?_
          refine fr_get fX1_judgeNests_45 hg1 rfl ?_
          refine fr_iload_n dX1_judgeNests_48 rfl ?_
          refine fr_iload dX1_judgeNests_49 rfl ?_
          refine fr_callV kX1_judgeNests_51 (c_between (d := 0) hg2 hi hk) (by omega) hg3 rfl rfl rfl ?_
          dsimp only [List.set, Option.toList, List.cons_append, List.nil_append]
          refine fr_aload_n dX1_judgeNests_54 rfl ?_
          refine fr_get fX1_judgeNests_55 hg1 rfl ?_
          refine fr_iload_n dX1_judgeNests_58 rfl ?_
          refine fr_iload dX1_judgeNests_59 rfl ?_
          refine fr_callV kX1_judgeNests_61 (c_between (d := 0) hg2 hj hk) (by omega) hg3 rfl rfl rfl ?_
          dsimp only [List.set, Option.toList, List.cons_append, List.nil_append]
          refine fr_callS kX1_judgeNests_64 (c_alone (d := 1) (by omega) (by omega) (by omega) (by omega)) (by omega) rfl rfl rfl ?_
          dsimp only [List.set, Option.toList, List.cons_append, List.nil_append]
          refine fr_if_eq (tgt := 85) dX1_judgeNests_67 (by decide) (by omega) (fun c => ?_) (fun c => ?_)
          · rw [hb] at c; exact absurd c (by decide)
          refine fr_aload_n dX1_judgeNests_70 rfl ?_
          refine fr_iload_n dX1_judgeNests_71 rfl ?_
          refine fr_bipush dX1_judgeNests_72 (by decide) ?_
          refine fr_ishl (((i * 2 ^ 6 : Nat) : Int)) dX1_judgeNests_74 (iI_sh i 6 (by omega) (by decide)) ?_
          refine fr_iload_n dX1_judgeNests_75 rfl ?_
          refine fr_iconst dX1_judgeNests_76 ?_
          refine fr_ishl (((j * 2 ^ 3 : Nat) : Int)) dX1_judgeNests_77 (iI_sh j 3 (by omega) (by decide)) ?_
          refine fr_ior (((64 * i + 8 * j : Nat) : Int)) dX1_judgeNests_78 (by rw [iI_or, or_2 i (by omega) j (by omega)]) ?_
          refine fr_iload dX1_judgeNests_79 rfl ?_
          refine fr_ior (((64 * i + 8 * j + k : Nat) : Int)) dX1_judgeNests_81 (by rw [iI_or, show 64 * i + 8 * j = 8 * (8 * i + j) by omega, or_1 (8 * i + j) (by omega) k (by omega)]) ?_
          refine fr_callV kX1_judgeNests_82 (k1) (by omega) hg1 rfl rfl rfl ?_
          dsimp only [List.set, Option.toList, List.cons_append, List.nil_append]
          refine fr_iinc dX1_judgeNests_85 rfl (by decide) rfl rfl ?_
          dsimp only [List.set, Option.toList, List.cons_append, List.nil_append]
          refine fr_goto (tgt := 29) dX1_judgeNests_88 (by decide) ?_
          exact kk
        | false =>
          have hp : p2 n D (64 * i + 8 * j + k) = false := by
            unfold p2; rw [hx1, hx2, hx3]; simp only [decide_eq_false_iff_not]; intro z; rw [hb] at z; exact absurd z.2.2.2 (by decide)
          refine ⟨(), v, ⟨by omega, skip g1 (by omega) (fun q h1 h2 => by rw [show q = 64 * i + 8 * j + k by omega]; exact hp), g2⟩, ?_⟩
          intro r w' kk
          refine fr_iload dX1_judgeNests_29 rfl ?_
          refine fr_iload_n dX1_judgeNests_31 rfl ?_
          refine fr_icmp_ge (tgt := 91) dX1_judgeNests_32 (by decide) (by omega) (by omega) (fun c => ?_) (fun c => ?_)
          · omega
          refine fr_aload_n dX1_judgeNests_35 rfl ?_
          refine fr_get fX1_judgeNests_36 hg1 rfl ?_
          refine fr_iload_n dX1_judgeNests_39 rfl ?_
          refine fr_iload_n dX1_judgeNests_40 rfl ?_
          refine fr_callV kX1_judgeNests_41 (c_between (d := 0) hg2 hi hj) (by omega) hg3 rfl rfl rfl ?_
          dsimp only [List.set, Option.toList, List.cons_append, List.nil_append]
          refine fr_aload_n dX1_judgeNests_44 rfl ?_
          refine fr_get fX1_judgeNests_45 hg1 rfl ?_
          refine fr_iload_n dX1_judgeNests_48 rfl ?_
          refine fr_iload dX1_judgeNests_49 rfl ?_
          refine fr_callV kX1_judgeNests_51 (c_between (d := 0) hg2 hi hk) (by omega) hg3 rfl rfl rfl ?_
          dsimp only [List.set, Option.toList, List.cons_append, List.nil_append]
          refine fr_aload_n dX1_judgeNests_54 rfl ?_
          refine fr_get fX1_judgeNests_55 hg1 rfl ?_
          refine fr_iload_n dX1_judgeNests_58 rfl ?_
          refine fr_iload dX1_judgeNests_59 rfl ?_
          refine fr_callV kX1_judgeNests_61 (c_between (d := 0) hg2 hj hk) (by omega) hg3 rfl rfl rfl ?_
          dsimp only [List.set, Option.toList, List.cons_append, List.nil_append]
          refine fr_callS kX1_judgeNests_64 (c_alone (d := 1) (by omega) (by omega) (by omega) (by omega)) (by omega) rfl rfl rfl ?_
          dsimp only [List.set, Option.toList, List.cons_append, List.nil_append]
          refine fr_if_eq (tgt := 85) dX1_judgeNests_67 (by decide) (by omega) (fun c => ?_) (fun c => ?_)
          · refine fr_iinc dX1_judgeNests_85 rfl (by decide) rfl rfl ?_
            dsimp only [List.set, Option.toList, List.cons_append, List.nil_append]
            refine fr_goto (tgt := 29) dX1_judgeNests_88 (by decide) ?_
            exact kk
          · rw [hb] at c; exact absurd rfl c)
      obtain ⟨_, wE, ⟨-, e1, e2⟩, hr⟩ := inner (j + 1) () v (by omega) ⟨by omega, skip g1 (by omega) (fun q h1 h2 => by unfold p2; simp only [decide_eq_false_iff_not]; intro z; have h9 := dg3 q; omega), g2⟩
      refine ⟨(), wE, ⟨by omega, skip e1 (by omega) (fun q h1 h2 => by unfold p2; simp only [decide_eq_false_iff_not]; intro z; have h9 := dg3 q; omega), e2⟩, ?_⟩
      intro r w' kk
      refine fr_iload_n dX1_judgeNests_19 rfl ?_
      refine fr_iload_n dX1_judgeNests_20 rfl ?_
      refine fr_icmp_ge (tgt := 97) dX1_judgeNests_21 (by decide) (by omega) (by omega) (fun c => ?_) (fun c => ?_)
      · omega
      refine fr_iload_n dX1_judgeNests_24 rfl ?_
      refine fr_iconst dX1_judgeNests_25 ?_
      refine fr_iadd dX1_judgeNests_26 ?_
      refine fr_istore dX1_judgeNests_27 (by decide) rfl rfl ?_
      dsimp only [List.set, Option.toList, List.cons_append, List.nil_append]
      refine hr r w' ?_
      refine fr_iload dX1_judgeNests_29 rfl ?_
      refine fr_iload_n dX1_judgeNests_31 rfl ?_
      refine fr_icmp_ge (tgt := 91) dX1_judgeNests_32 (by decide) (by omega) (by omega) (fun c => ?_) (fun c => ?_)
      · refine fr_iinc dX1_judgeNests_91 rfl (by decide) rfl rfl ?_
        dsimp only [List.set, Option.toList, List.cons_append, List.nil_append]
        refine fr_goto (tgt := 19) dX1_judgeNests_94 (by decide) ?_
        exact kk.wk (by simp [fw_le])
      · omega)
    obtain ⟨_, wE, ⟨-, e1, e2⟩, hr⟩ := mid (i + 1) () v (by omega) ⟨by omega, skip g1 (by omega) (fun q h1 h2 => by unfold p2; simp only [decide_eq_false_iff_not]; intro z; have h9 := dg3 q; omega), g2⟩
    refine ⟨(), wE, ⟨skip e1 (by omega) (fun q h1 h2 => by unfold p2; simp only [decide_eq_false_iff_not]; intro z; have h9 := dg3 q; omega), e2⟩, ?_⟩
    intro r w' kk
    refine fr_iload_n dX1_judgeNests_10 rfl ?_
    refine fr_iload_n dX1_judgeNests_11 rfl ?_
    refine fr_icmp_ge (tgt := 103) dX1_judgeNests_12 (by decide) (by omega) (by omega) (fun c => ?_) (fun c => ?_)
    · omega
    refine fr_iload_n dX1_judgeNests_15 rfl ?_
    refine fr_iconst dX1_judgeNests_16 ?_
    refine fr_iadd dX1_judgeNests_17 ?_
    refine fr_istore_n dX1_judgeNests_18 rfl (by decide) rfl rfl ?_
    dsimp only [List.set, Option.toList, List.cons_append, List.nil_append]
    refine hr r w' ?_
    refine fr_iload_n dX1_judgeNests_19 rfl ?_
    refine fr_iload_n dX1_judgeNests_20 rfl ?_
    refine fr_icmp_ge (tgt := 97) dX1_judgeNests_21 (by decide) (by omega) (by omega) (fun c => ?_) (fun c => ?_)
    · refine fr_iinc dX1_judgeNests_97 rfl (by decide) rfl rfl ?_
      dsimp only [List.set, Option.toList, List.cons_append, List.nil_append]
      refine fr_goto (tgt := 10) dX1_judgeNests_100 (by decide) ?_
      exact kk.wk (by simp [fw_le])
    · omega)
  obtain ⟨_, wE, ⟨e1, e2⟩, hr⟩ := outer 0 () w (Nat.zero_le _) ⟨h, kp.rf⟩
  refine ⟨wE, ?_, skip e1 (by omega) (fun q h1 h2 => p2_e h1 h2), e2⟩
  refine fw_K.of (by decide) (Nat.le_of_ble_eq_true rfl) (by simp [Value.category]) (e2.1) ?_
  show fw_R _ _ 0 [some (.ref o), none, none, none, none] [] _ _ _
  have h1 := h.1
  have h3 := h.2.1.1
  refine fr_aload_n dX1_judgeNests_0 rfl ?_
  refine fr_get fX1_judgeNests_1 h1 rfl ?_
  refine fr_get fX1_judgeNests_4 h3 rfl ?_
  refine fr_istore_n dX1_judgeNests_7 rfl (by decide) rfl rfl ?_
  dsimp only [List.set, Option.toList, List.cons_append, List.nil_append]
  refine fr_iconst dX1_judgeNests_8 ?_
  refine fr_istore_n dX1_judgeNests_9 rfl (by decide) rfl rfl ?_
  dsimp only [List.set, Option.toList, List.cons_append, List.nil_append]
  refine hr _ _ ?_
  refine fr_iload_n dX1_judgeNests_10 rfl ?_
  refine fr_iload_n dX1_judgeNests_11 rfl ?_
  refine fr_icmp_ge (tgt := 103) dX1_judgeNests_12 (by decide) (by omega) (by omega) (fun c => ?_) (fun c => ?_)
  · exact fr_vret dX1_judgeNests_103 rfl rfl (rfl)
  · omega
end
section
/-! the judge of law 1 -/
theorem p1_no {n q : Nat} {D : Nat → Nat → Int} (h : ∀ A B C E : Nat, q = 512 * A + 64 * B + 8 * C + E → A < B → B < C → C < E → E < n → False) : p1 n D q = false := by
  unfold p1
  simp only [decide_eq_false_iff_not]
  intro z
  have h9 := dg3 q
  have h8 : q / 512 = q / 64 / 8 := by rw [Nat.div_div_eq_div_mul]
  exact h (q / 512) (q / 64 % 8) (q / 8 % 8) (q % 8) (by omega) z.2.1 z.2.2.1 z.2.2.2.1 z.1
theorem c_judgeTrees {d o t a wa n : Nat} {D : Nat → Nat → Int} {w : fw_S} (hd : 3 ≤ d) (h : lst w o t a wa n D (-4) 0) (hD : okR n D 60) : ∃ w', fw_K d mX1_judgeTrees [.ref o] w none w' ∧ lst w' o t a wa n D (scF (p1 n D) 4096) (scC (p1 n D) 4096) ∧ kp w w' (fun k => k = o) := by
  have hn := h.2.1.2.2
  have skip : ∀ {v : fw_S} {m m' : Nat}, lst v o t a wa n D (scF (p1 n D) m) (scC (p1 n D) m) → m ≤ m' → (∀ k, m ≤ k → k < m' → p1 n D k = false) → lst v o t a wa n D (scF (p1 n D) m') (scC (p1 n D) m') := by
    intro v m m' hl hm hk
    obtain ⟨e1, e2⟩ := sc_skip hm hk
    rw [e1, e2]; exact hl
  have outer := lpE (M := mX1_judgeTrees) (d := d) (pcH := 10) n (fun i _ => [some (.ref o), some (.int (iI n)), some (.int (iI i)), none, none, none]) (fun i (_ : Unit) v => lst v o t a wa n D (scF (p1 n D) (512 * i)) (scC (p1 n D) (512 * i)) ∧ kp w v (fun k => k = o)) (by
    intro i _ v hi ⟨g1, g2⟩
    have mid := lpE (M := mX1_judgeTrees) (d := d) (pcH := 19) n (fun j _ => [some (.ref o), some (.int (iI n)), some (.int (iI i)), some (.int (iI j)), none, none]) (fun j (_ : Unit) v => i < j ∧ lst v o t a wa n D (scF (p1 n D) (512 * i + 64 * j)) (scC (p1 n D) (512 * i + 64 * j)) ∧ kp w v (fun k => k = o)) (by
      intro j _ v hj ⟨hij, g1, g2⟩
      have mid2 := lpE (M := mX1_judgeTrees) (d := d) (pcH := 29) n (fun k _ => [some (.ref o), some (.int (iI n)), some (.int (iI i)), some (.int (iI j)), some (.int (iI k)), none]) (fun k (_ : Unit) v => j < k ∧ lst v o t a wa n D (scF (p1 n D) (512 * i + 64 * j + 8 * k)) (scC (p1 n D) (512 * i + 64 * j + 8 * k)) ∧ kp w v (fun k => k = o)) (by
        intro k _ v hk ⟨hjk, g1, g2⟩
        have inner := lpE (M := mX1_judgeTrees) (d := d) (pcH := 41) n (fun l _ => [some (.ref o), some (.int (iI n)), some (.int (iI i)), some (.int (iI j)), some (.int (iI k)), some (.int (iI l))]) (fun l (_ : Unit) v => k < l ∧ lst v o t a wa n D (scF (p1 n D) (512 * i + 64 * j + 8 * k + l)) (scC (p1 n D) (512 * i + 64 * j + 8 * k + l)) ∧ kp w v (fun k => k = o)) (by
          intro l _ v hl ⟨hkl, g1, g2⟩
          have hx0 : (512 * i + 64 * j + 8 * k + l) / 512 = i := by omega
          have hx1 : (512 * i + 64 * j + 8 * k + l) / 64 % 8 = j := by omega
          have hx2 : (512 * i + 64 * j + 8 * k + l) / 8 % 8 = k := by omega
          have hx3 : (512 * i + 64 * j + 8 * k + l) % 8 = l := by omega
          have hg1 := g1.1
          have hso := c_sumsStickOut (d := d - 1) (by omega) g1 hD hi hj hk hl
          have rb := b2_r (alone (D i j + D k l) (D i k + D j l) (D i l + D j k))
          cases hb : alone (D i j + D k l) (D i k + D j l) (D i l + D j k) with
          | true =>
            have hp : p1 n D (512 * i + 64 * j + 8 * k + l) = true := by
              unfold p1; rw [hx0, hx1, hx2, hx3]; simp only [decide_eq_true_eq]; exact ⟨hl, hij, hjk, hkl, hb⟩
            obtain ⟨w1, k1, k2, k3⟩ := c_noteS (d := 0) g1 (by omega) hp
            refine ⟨(), w1, ⟨by omega, k2, g2.trans k3⟩, ?_⟩
            intro r w' kk
            refine fr_iload dX1_judgeTrees_41 rfl ?_
            refine fr_iload_n dX1_judgeTrees_43 rfl ?_
            refine fr_icmp_ge (tgt := 87) dX1_judgeTrees_44 (by decide) (by omega) (by omega) (fun c => ?_) (fun c => ?_)
            · omega
            refine fr_aload_n dX1_judgeTrees_47 rfl ?_
            refine fr_iload_n dX1_judgeTrees_48 rfl ?_
            refine fr_iload_n dX1_judgeTrees_49 rfl ?_
            refine fr_iload dX1_judgeTrees_50 rfl ?_
            refine fr_iload dX1_judgeTrees_52 rfl ?_
            refine fr_callV kX1_judgeTrees_54 (hso) (by omega) hg1 rfl rfl rfl ?_
            dsimp only [List.set, Option.toList, List.cons_append, List.nil_append]
            refine fr_if_eq (tgt := 81) dX1_judgeTrees_57 (by decide) (by omega) (fun c => ?_) (fun c => ?_)
            · rw [hb] at c; exact absurd c (by decide)
            refine fr_aload_n dX1_judgeTrees_60 rfl ?_
            refine fr_iload_n dX1_judgeTrees_61 rfl ?_
            refine fr_bipush dX1_judgeTrees_62 (by decide) ?_
            refine fr_ishl (((i * 2 ^ 9 : Nat) : Int)) dX1_judgeTrees_64 (iI_sh i 9 (by omega) (by decide)) ?_
            refine fr_iload_n dX1_judgeTrees_65 rfl ?_
            refine fr_bipush dX1_judgeTrees_66 (by decide) ?_
            refine fr_ishl (((j * 2 ^ 6 : Nat) : Int)) dX1_judgeTrees_68 (iI_sh j 6 (by omega) (by decide)) ?_
            refine fr_ior (((512 * i + 64 * j : Nat) : Int)) dX1_judgeTrees_69 (by rw [iI_or, or_3 i (by omega) j (by omega)]) ?_
            refine fr_iload dX1_judgeTrees_70 rfl ?_
            refine fr_iconst dX1_judgeTrees_72 ?_
            refine fr_ishl (((k * 2 ^ 3 : Nat) : Int)) dX1_judgeTrees_73 (iI_sh k 3 (by omega) (by decide)) ?_
            refine fr_ior (((512 * i + 64 * j + 8 * k : Nat) : Int)) dX1_judgeTrees_74 (by rw [iI_or, show 512 * i + 64 * j = 64 * (8 * i + j) by omega, or_4 (8 * i + j) (by omega) k (by omega)]) ?_
            refine fr_iload dX1_judgeTrees_75 rfl ?_
            refine fr_ior (((512 * i + 64 * j + 8 * k + l : Nat) : Int)) dX1_judgeTrees_77 (by rw [iI_or, show 512 * i + 64 * j + 8 * k = 8 * (64 * i + 8 * j + k) by omega, or_1 (64 * i + 8 * j + k) (by omega) l (by omega)]) ?_
            refine fr_callV kX1_judgeTrees_78 (k1) (by omega) hg1 rfl rfl rfl ?_
            dsimp only [List.set, Option.toList, List.cons_append, List.nil_append]
            refine fr_iinc dX1_judgeTrees_81 rfl (by decide) rfl rfl ?_
            dsimp only [List.set, Option.toList, List.cons_append, List.nil_append]
            refine fr_goto (tgt := 41) dX1_judgeTrees_84 (by decide) ?_
            exact kk
          | false =>
            have hp : p1 n D (512 * i + 64 * j + 8 * k + l) = false := by
              unfold p1; rw [hx0, hx1, hx2, hx3]; simp only [decide_eq_false_iff_not]; intro z; rw [hb] at z; exact absurd z.2.2.2.2 (by decide)
            refine ⟨(), v, ⟨by omega, skip g1 (by omega) (fun q h1 h2 => by rw [show q = 512 * i + 64 * j + 8 * k + l by omega]; exact hp), g2⟩, ?_⟩
            intro r w' kk
            refine fr_iload dX1_judgeTrees_41 rfl ?_
            refine fr_iload_n dX1_judgeTrees_43 rfl ?_
            refine fr_icmp_ge (tgt := 87) dX1_judgeTrees_44 (by decide) (by omega) (by omega) (fun c => ?_) (fun c => ?_)
            · omega
            refine fr_aload_n dX1_judgeTrees_47 rfl ?_
            refine fr_iload_n dX1_judgeTrees_48 rfl ?_
            refine fr_iload_n dX1_judgeTrees_49 rfl ?_
            refine fr_iload dX1_judgeTrees_50 rfl ?_
            refine fr_iload dX1_judgeTrees_52 rfl ?_
            refine fr_callV kX1_judgeTrees_54 (hso) (by omega) hg1 rfl rfl rfl ?_
            dsimp only [List.set, Option.toList, List.cons_append, List.nil_append]
            refine fr_if_eq (tgt := 81) dX1_judgeTrees_57 (by decide) (by omega) (fun c => ?_) (fun c => ?_)
            · refine fr_iinc dX1_judgeTrees_81 rfl (by decide) rfl rfl ?_
              dsimp only [List.set, Option.toList, List.cons_append, List.nil_append]
              refine fr_goto (tgt := 41) dX1_judgeTrees_84 (by decide) ?_
              exact kk
            · rw [hb] at c; exact absurd rfl c)
        obtain ⟨_, wE, ⟨-, e1, e2⟩, hr⟩ := inner (k + 1) () v (by omega) ⟨by omega, skip g1 (by omega) (fun q h1 h2 => p1_no (fun A B C E e0 e1 e2 e3 e4 => by omega)), g2⟩
        refine ⟨(), wE, ⟨by omega, skip e1 (by omega) (fun q h1 h2 => p1_no (fun A B C E e0 e1 e2 e3 e4 => by omega)), e2⟩, ?_⟩
        intro r w' kk
        refine fr_iload dX1_judgeTrees_29 rfl ?_
        refine fr_iload_n dX1_judgeTrees_31 rfl ?_
        refine fr_icmp_ge (tgt := 93) dX1_judgeTrees_32 (by decide) (by omega) (by omega) (fun c => ?_) (fun c => ?_)
        · omega
        refine fr_iload dX1_judgeTrees_35 rfl ?_
        refine fr_iconst dX1_judgeTrees_37 ?_
        refine fr_iadd dX1_judgeTrees_38 ?_
        refine fr_istore dX1_judgeTrees_39 (by decide) rfl rfl ?_
        dsimp only [List.set, Option.toList, List.cons_append, List.nil_append]
        refine hr r w' ?_
        refine fr_iload dX1_judgeTrees_41 rfl ?_
        refine fr_iload_n dX1_judgeTrees_43 rfl ?_
        refine fr_icmp_ge (tgt := 87) dX1_judgeTrees_44 (by decide) (by omega) (by omega) (fun c => ?_) (fun c => ?_)
        · refine fr_iinc dX1_judgeTrees_87 rfl (by decide) rfl rfl ?_
          dsimp only [List.set, Option.toList, List.cons_append, List.nil_append]
          refine fr_goto (tgt := 29) dX1_judgeTrees_90 (by decide) ?_
          exact kk.wk (by simp [fw_le])
        · omega)
      obtain ⟨_, wE, ⟨-, e1, e2⟩, hr⟩ := mid2 (j + 1) () v (by omega) ⟨by omega, skip g1 (by omega) (fun q h1 h2 => p1_no (fun A B C E e0 e1 e2 e3 e4 => by omega)), g2⟩
      refine ⟨(), wE, ⟨by omega, skip e1 (by omega) (fun q h1 h2 => p1_no (fun A B C E e0 e1 e2 e3 e4 => by have a1 : A = i := (by omega); have a2 : B = j := (by omega); omega)), e2⟩, ?_⟩
      intro r w' kk
      refine fr_iload_n dX1_judgeTrees_19 rfl ?_
      refine fr_iload_n dX1_judgeTrees_20 rfl ?_
      refine fr_icmp_ge (tgt := 99) dX1_judgeTrees_21 (by decide) (by omega) (by omega) (fun c => ?_) (fun c => ?_)
      · omega
      refine fr_iload_n dX1_judgeTrees_24 rfl ?_
      refine fr_iconst dX1_judgeTrees_25 ?_
      refine fr_iadd dX1_judgeTrees_26 ?_
      refine fr_istore dX1_judgeTrees_27 (by decide) rfl rfl ?_
      dsimp only [List.set, Option.toList, List.cons_append, List.nil_append]
      refine hr r w' ?_
      refine fr_iload dX1_judgeTrees_29 rfl ?_
      refine fr_iload_n dX1_judgeTrees_31 rfl ?_
      refine fr_icmp_ge (tgt := 93) dX1_judgeTrees_32 (by decide) (by omega) (by omega) (fun c => ?_) (fun c => ?_)
      · refine fr_iinc dX1_judgeTrees_93 rfl (by decide) rfl rfl ?_
        dsimp only [List.set, Option.toList, List.cons_append, List.nil_append]
        refine fr_goto (tgt := 19) dX1_judgeTrees_96 (by decide) ?_
        exact kk.wk (by simp [fw_le])
      · omega)
    obtain ⟨_, wE, ⟨-, e1, e2⟩, hr⟩ := mid (i + 1) () v (by omega) ⟨by omega, skip g1 (by omega) (fun q h1 h2 => p1_no (fun A B C E e0 e1 e2 e3 e4 => by omega)), g2⟩
    refine ⟨(), wE, ⟨skip e1 (by omega) (fun q h1 h2 => p1_no (fun A B C E e0 e1 e2 e3 e4 => by have a1 : A = i := (by omega); omega)), e2⟩, ?_⟩
    intro r w' kk
    refine fr_iload_n dX1_judgeTrees_10 rfl ?_
    refine fr_iload_n dX1_judgeTrees_11 rfl ?_
    refine fr_icmp_ge (tgt := 105) dX1_judgeTrees_12 (by decide) (by omega) (by omega) (fun c => ?_) (fun c => ?_)
    · omega
    refine fr_iload_n dX1_judgeTrees_15 rfl ?_
    refine fr_iconst dX1_judgeTrees_16 ?_
    refine fr_iadd dX1_judgeTrees_17 ?_
    refine fr_istore_n dX1_judgeTrees_18 rfl (by decide) rfl rfl ?_
    dsimp only [List.set, Option.toList, List.cons_append, List.nil_append]
    refine hr r w' ?_
    refine fr_iload_n dX1_judgeTrees_19 rfl ?_
    refine fr_iload_n dX1_judgeTrees_20 rfl ?_
    refine fr_icmp_ge (tgt := 99) dX1_judgeTrees_21 (by decide) (by omega) (by omega) (fun c => ?_) (fun c => ?_)
    · refine fr_iinc dX1_judgeTrees_99 rfl (by decide) rfl rfl ?_
      dsimp only [List.set, Option.toList, List.cons_append, List.nil_append]
      refine fr_goto (tgt := 10) dX1_judgeTrees_102 (by decide) ?_
      exact kk.wk (by simp [fw_le])
    · omega)
  obtain ⟨_, wE, ⟨e1, e2⟩, hr⟩ := outer 0 () w (Nat.zero_le _) ⟨h, kp.rf⟩
  refine ⟨wE, ?_, skip e1 (by omega) (fun q h1 h2 => p1_no (fun A B C E e0 e1 e2 e3 e4 => by omega)), e2⟩
  refine fw_K.of (by decide) (Nat.le_of_ble_eq_true rfl) (by simp [Value.category]) (e2.1) ?_
  show fw_R _ _ 0 [some (.ref o), none, none, none, none, none] [] _ _ _
  have h1 := h.1
  have h3 := h.2.1.1
  refine fr_aload_n dX1_judgeTrees_0 rfl ?_
  refine fr_get fX1_judgeTrees_1 h1 rfl ?_
  refine fr_get fX1_judgeTrees_4 h3 rfl ?_
  refine fr_istore_n dX1_judgeTrees_7 rfl (by decide) rfl rfl ?_
  dsimp only [List.set, Option.toList, List.cons_append, List.nil_append]
  refine fr_iconst dX1_judgeTrees_8 ?_
  refine fr_istore_n dX1_judgeTrees_9 rfl (by decide) rfl rfl ?_
  dsimp only [List.set, Option.toList, List.cons_append, List.nil_append]
  refine hr _ _ ?_
  refine fr_iload_n dX1_judgeTrees_10 rfl ?_
  refine fr_iload_n dX1_judgeTrees_11 rfl ?_
  refine fr_icmp_ge (tgt := 105) dX1_judgeTrees_12 (by decide) (by omega) (by omega) (fun c => ?_) (fun c => ?_)
  · exact fr_vret dX1_judgeTrees_105 rfl rfl (rfl)
  · omega
end
section
/-! the judge of law 3, and judge -/
/-- the figures of x to the base 5, m of them, each less 2; the one of point j -/
def dgt : Nat → Nat → Nat → Int
  | 0, _, _ => 0
  | m + 1, x, j => if j = m then ((x % 5 : Nat) : Int) - 2 else dgt m (x / 5) j
theorem dgt_s (m x j : Nat) : dgt (m + 1) x j = if j = m then ((x % 5 : Nat) : Int) - 2 else dgt m (x / 5) j := rfl
theorem dgt_r : ∀ m x j : Nat, -2 ≤ dgt m x j ∧ dgt m x j ≤ 2
  | 0, x, j => by unfold dgt; omega
  | m + 1, x, j => by
    have := dgt_r m (x / 5) j
    rw [dgt_s]; split <;> omega
/-- the sum over i below j of f(i) by the distance of i and q -/
def pull (D : Nat → Nat → Int) (f : Nat → Int) (q : Nat) : Nat → Int
  | 0 => 0
  | j + 1 => pull D f q j + f j * D j q
theorem pull_s (D : Nat → Nat → Int) (f : Nat → Int) (q j : Nat) : pull D f q (j + 1) = pull D f q j + f j * D j q := rfl
theorem pull_cg {D : Nat → Nat → Int} {f g : Nat → Int} {q : Nat} : ∀ {j : Nat}, (∀ i, i < j → f i = g i) → pull D f q j = pull D g q j
  | 0, _ => rfl
  | j + 1, h => by rw [pull_s, pull_s, pull_cg (fun i hi => h i (by omega)), h j (by omega)]
theorem mul_r {x y c e : Int} (hc : 0 ≤ c) (hx : -c ≤ x ∧ x ≤ c) (hy : 0 ≤ y ∧ y ≤ e) : -(c * e) ≤ x * y ∧ x * y ≤ c * e := by
  have h1 : x * y ≤ c * y := Int.mul_le_mul_of_nonneg_right hx.2 hy.1
  have h2 : (-c) * y ≤ x * y := Int.mul_le_mul_of_nonneg_right hx.1 hy.1
  have h3 : c * y ≤ c * e := Int.mul_le_mul_of_nonneg_left hy.2 hc
  have h4 : (-c) * y = -(c * y) := Int.neg_mul c y
  omega
theorem pull_r {D : Nat → Nat → Int} {n : Nat} (hD : okR n D 30) {f : Nat → Int} {q : Nat} (hq : q < n) : ∀ j : Nat, j ≤ n → (∀ i, i < j → -2 ≤ f i ∧ f i ≤ 2) → -(60 * (j : Int)) ≤ pull D f q j ∧ pull D f q j ≤ 60 * (j : Int)
  | 0, _, _ => by simp [pull]
  | j + 1, hj, hf => by
    have ih := pull_r hD hq j (by omega) (fun i hi => hf i (by omega))
    have h1 := mul_r (c := 2) (e := 30) (by omega) (hf j (by omega)) (hD j q (by omega) hq)
    rw [pull_s]; omega
def sumD : Nat → Nat → Int
  | 0, _ => 0
  | m + 1, x => sumD m (x / 5) + (((x % 5 : Nat) : Int) - 2)
def worD (D : Nat → Nat → Int) : Nat → Nat → Int
  | 0, _ => 0
  | m + 1, x => worD D m (x / 5) + (((x % 5 : Nat) : Int) - 2) * pull D (dgt m (x / 5)) m m
theorem sumD_s (m x : Nat) : sumD (m + 1) x = sumD m (x / 5) + (((x % 5 : Nat) : Int) - 2) := rfl
theorem worD_s (D : Nat → Nat → Int) (m x : Nat) : worD D (m + 1) x = worD D m (x / 5) + (((x % 5 : Nat) : Int) - 2) * pull D (dgt m (x / 5)) m m := rfl
theorem sumD_r : ∀ m x : Nat, -(2 * (m : Int)) ≤ sumD m x ∧ sumD m x ≤ 2 * (m : Int)
  | 0, _ => by simp [sumD]
  | m + 1, x => by
    have := sumD_r m (x / 5)
    rw [sumD_s]; omega
theorem mul_rr {x y c e : Int} (hc : 0 ≤ c) (hx : -c ≤ x ∧ x ≤ c) (hy : -e ≤ y ∧ y ≤ e) : -(c * e) ≤ x * y ∧ x * y ≤ c * e := by
  rcases Int.le_total 0 y with h | h
  · exact mul_r hc hx ⟨h, hy.2⟩
  · have := mul_r (y := -y) (e := e) hc hx ⟨by omega, by omega⟩
    rw [Int.mul_neg] at this
    omega
theorem worD_r {D : Nat → Nat → Int} {n : Nat} (hD : okR n D 30) (hn : n ≤ 6) : ∀ m x : Nat, m ≤ n → -(720 * (m : Int)) ≤ worD D m x ∧ worD D m x ≤ 720 * (m : Int)
  | 0, _, _ => by simp [worD]
  | m + 1, x, hm => by
    have ih := worD_r hD hn m (x / 5) (by omega)
    have h1 := pull_r hD (f := dgt m (x / 5)) (q := m) (by omega) m (by omega) (fun i _ => dgt_r m (x / 5) i)
    have h2 := mul_rr (x := ((x % 5 : Nat) : Int) - 2) (y := pull D (dgt m (x / 5)) m m) (c := 2) (e := 360) (by omega) (by omega) (by omega)
    rw [worD_s]; omega
def p3 (n : Nat) (D : Nat → Nat → Int) (x : Nat) : Bool := decide (sumD n x = 1 ∧ worD D n x > 0)
/-- o is a Laws; its weights are f -/
def lsw (w : fw_S) (o t a wa n : Nat) (D : Nat → Nat → Int) (fc br : Int) (f : Nat → Int) : Prop := fw_g w o (.inl (1, [.ref t, .ref wa, .int (iI fc), .int (iI br)])) ∧ tb w t a n D ∧ fw_g w wa (.inr (6, .inl f)) ∧ wa ≠ a
theorem lsw.l {w : fw_S} {o t a wa n : Nat} {D : Nat → Nat → Int} {fc br : Int} {f : Nat → Int} (h : lsw w o t a wa n D fc br f) : lst w o t a wa n D fc br := ⟨h.1, h.2.1, ⟨f, h.2.2.1⟩, h.2.2.2⟩
theorem lsw.of {w w' : fw_S} {o t a wa n : Nat} {D : Nat → Nat → Int} {fc br fc' br' : Int} {f : Nat → Int} (h : lsw w o t a wa n D fc br f) (h' : lst w' o t a wa n D fc' br') (hk : kp w w' (fun k => k = o)) : lsw w' o t a wa n D fc' br' f := ⟨h'.1, h'.2.1, hk.g (fun q => h.l.ot.2.2.1 q.symm) h.2.2.1, h.2.2.2⟩
theorem c_pullOn {d o t a wa n q : Nat} {D : Nat → Nat → Int} {fc br : Int} {f : Nat → Int} {w : fw_S} (hd : 1 ≤ d) (h : lsw w o t a wa n D fc br f) (hD : okR n D 30) (hf : ∀ i, i < q → -2 ≤ f i ∧ f i ≤ 2) (hq : q < n) : fw_K d mX1_pullOn [.ref o, .int (iI q)] w (some (.int (iI (pull D f q q)))) w := by
  obtain ⟨h1, h2, h3, h4⟩ := h
  have h5 := h2.1
  have hn := h2.2.2
  refine fw_K.of (by decide) (Nat.le_of_ble_eq_true rfl) (by simp [Value.category]) (rfl) ?_
  show fw_R _ _ 0 [some (.ref o), some (.int (iI q)), none, none] [] _ _ _
  refine fr_iconst dX1_pullOn_0 ?_
  refine fr_istore_n dX1_pullOn_1 rfl (by decide) rfl rfl ?_
  dsimp only [List.set, Option.toList, List.cons_append, List.nil_append]
  refine fr_iconst dX1_pullOn_2 ?_
  refine fr_istore_n dX1_pullOn_3 rfl (by decide) rfl rfl ?_
  dsimp only [List.set, Option.toList, List.cons_append, List.nil_append]
  refine up_loop (fun j => fw_R mX1_pullOn d 4 [some (.ref o), some (.int (iI q)), some (.int (iI (pull D f q j))), some (.int (iI j))] [] w (some (.int (iI (pull D f q q)))) w) q ?_ ?_ 0 (Nat.zero_le _)
  · refine fr_iload_n dX1_pullOn_4 rfl ?_
    refine fr_iload_n dX1_pullOn_5 rfl ?_
    refine fr_icmp_ge (tgt := 34) dX1_pullOn_6 (by decide) (by omega) (by omega) (fun c => ?_) (fun c => ?_)
    · refine fr_iload_n dX1_pullOn_34 rfl ?_
      exact fr_iret dX1_pullOn_35 rfl (rfl) (rfl)
    · omega
  · intro j hj ih
    rw [pull_s] at ih
    refine fr_iload_n dX1_pullOn_4 rfl ?_
    refine fr_iload_n dX1_pullOn_5 rfl ?_
    refine fr_icmp_ge (tgt := 34) dX1_pullOn_6 (by decide) (by omega) (by omega) (fun c => ?_) (fun c => ?_)
    · omega
    refine fr_iload_n dX1_pullOn_9 rfl ?_
    refine fr_aload_n dX1_pullOn_10 rfl ?_
    refine fr_get fX1_pullOn_11 h1 rfl ?_
    refine fr_iload_n dX1_pullOn_14 rfl ?_
    refine fr_iald (j) dX1_pullOn_15 h3 (by omega) (by omega) (by decide) ?_
    refine fr_aload_n dX1_pullOn_16 rfl ?_
    refine fr_get fX1_pullOn_17 h1 rfl ?_
    refine fr_iload_n dX1_pullOn_20 rfl ?_
    refine fr_iload_n dX1_pullOn_21 rfl ?_
    refine fr_callV kX1_pullOn_22 (c_between (d := 0) h2 (i := j) (j := q) (by omega) hq) (by omega) h5 rfl rfl rfl ?_
    dsimp only [List.set, Option.toList, List.cons_append, List.nil_append]
    refine fr_imul dX1_pullOn_25 ?_
    refine fr_iadd dX1_pullOn_26 ?_
    refine fr_istore_n dX1_pullOn_27 rfl (by decide) rfl rfl ?_
    dsimp only [List.set, Option.toList, List.cons_append, List.nil_append]
    refine fr_iinc dX1_pullOn_28 rfl (by decide) rfl rfl ?_
    dsimp only [List.set, Option.toList, List.cons_append, List.nil_append]
    refine fr_goto (tgt := 4) dX1_pullOn_31 (by decide) ?_
    exact ih
/-- the cases whose first figures are x's -/
theorem c_judgeWeights {o t a wa n : Nat} {D : Nat → Nat → Int} (hD : okR n D 30) : ∀ (r : Nat), 1 ≤ r → ∀ (q x : Nat) (f : Nat → Int) (w : fw_S), q + r = n → x < 5 ^ q → lsw w o t a wa n D (scF (p3 n D) (x * 5 ^ r)) (scC (p3 n D) (x * 5 ^ r)) f → (∀ j, j < q → f j = dgt q x j) →
    ∃ (w' : fw_S) (f' : Nat → Int), fw_K (r + 2) mX1_judgeWeights [.ref o, .int (iI q), .int (iI x), .int (iI (sumD q x)), .int (iI (worD D q x))] w none w' ∧ lsw w' o t a wa n D (scF (p3 n D) ((x + 1) * 5 ^ r)) (scC (p3 n D) ((x + 1) * 5 ^ r)) f' ∧ (∀ j, j < q → f' j = f j) ∧ kp w w' (fun k => k = o ∨ k = wa) := by
  intro r
  induction r with
  | zero => intro h; omega
  | succ r ih =>
    intro _ q x f w hqr hx hl hf
    have hn := hl.2.1.2.2
    have h1 := hl.1
    have h3 := hl.2.1.1
    have hq5 : (5 : Nat) ^ q ≤ 5 ^ 6 := Nat.pow_le_pow_right (by decide) (by omega)
    have hx6 : x < 15625 := Nat.lt_of_lt_of_le hx hq5
    have hsr := sumD_r q x
    have hwr := worD_r hD hn.2 q x (by omega)
    have hfr : ∀ i, i < q → -2 ≤ f i ∧ f i ≤ 2 := fun i hi => by rw [hf i hi]; exact dgt_r q x i
    have hpe : pull D f q q = pull D (dgt q x) q q := pull_cg (fun i hi => hf i hi)
    have hpr := pull_r hD (f := f) (q := q) (by omega) q (by omega) hfr
    have hpull := c_pullOn (d := r + 2) (by omega) hl hD hfr (show q < n by omega)
    have hs5 : ∀ u : Nat, u < 5 → sumD (q + 1) (5 * x + u) = sumD q x + ((u : Int) - 2) := by
      intro u hu
      rw [sumD_s, show (5 * x + u) / 5 = x by omega, show (5 * x + u) % 5 = u by omega]
    have hw5 : ∀ u : Nat, u < 5 → worD D (q + 1) (5 * x + u) = worD D q x + ((u : Int) - 2) * pull D f q q := by
      intro u hu
      rw [worD_s, show (5 * x + u) / 5 = x by omega, show (5 * x + u) % 5 = u by omega, hpe]
    rcases Nat.eq_zero_or_pos r with hr0 | hr0
    · -- the last point: the sum leaves it no choice
      subst hr0
      have hqn : n = q + 1 := by omega
      have hone : x * 5 ^ (0 + 1) = 5 * x := by omega
      have hone' : (x + 1) * 5 ^ (0 + 1) = 5 * x + 5 := by omega
      rw [hone] at hl
      rw [hone']
      have hskip : ∀ {v : fw_S} {m m' : Nat} {g : Nat → Int}, lsw v o t a wa n D (scF (p3 n D) m) (scC (p3 n D) m) g → m ≤ m' → (∀ k, m ≤ k → k < m' → p3 n D k = false) → lsw v o t a wa n D (scF (p3 n D) m') (scC (p3 n D) m') g := by
        intro v m m' g hl hm hk
        obtain ⟨e1, e2⟩ := sc_skip hm hk
        rw [e1, e2]; exact hl
      have hp3 : ∀ u : Nat, u < 5 → p3 n D (5 * x + u) = decide (sumD q x + ((u : Int) - 2) = 1 ∧ worD D q x + ((u : Int) - 2) * pull D f q q > 0) := by
        intro u hu
        unfold p3
        rw [hqn, hs5 u hu, hw5 u hu]
      by_cases hyes : ∃ u : Nat, u < 5 ∧ p3 n D (5 * x + u) = true
      · obtain ⟨u, hu, hpu⟩ := hyes
        have hpu' := hpu
        rw [hp3 u hu] at hpu'
        simp only [decide_eq_true_eq] at hpu'
        have hl1 := hskip hl (show 5 * x ≤ 5 * x + u by omega) (fun k k1 k2 => by
          obtain ⟨z, rfl⟩ : ∃ z, k = 5 * x + z := ⟨k - 5 * x, by omega⟩
          rw [hp3 z (by omega)]
          simp only [decide_eq_false_iff_not]
          intro z'; omega)
        obtain ⟨w1, k1, k2, k3⟩ := c_noteS (d := 0) hl1.l (by omega) hpu
        have hl2 := hl1.of k2 k3
        have hl3 := hskip hl2 (show 5 * x + u + 1 ≤ 5 * x + 5 by omega) (fun k k1 k2 => by
          obtain ⟨z, rfl⟩ : ∃ z, k = 5 * x + z := ⟨k - 5 * x, by omega⟩
          rw [hp3 z (by omega)]
          simp only [decide_eq_false_iff_not]
          intro z'; omega)
        have hmr := mul_rr (x := (u : Int) - 2) (y := pull D f q q) (c := 2) (e := 360) (by omega) (by omega) (by omega)
        have hlast : 1 - sumD q x = (u : Int) - 2 := by omega
        refine ⟨w1, f, ?_, hl3, fun _ _ => rfl, k3.mono (fun k hk => Or.inl hk)⟩
        refine fw_K.of (by decide) (Nat.le_of_ble_eq_true rfl) (by simp [Value.category]) (k3.1) ?_
        show fw_R _ _ 0 [some (.ref o), some (.int (iI q)), some (.int (iI x)), some (.int (iI (sumD q x))), some (.int (iI (worD D q x))), none, none, none] [] _ _ _
        refine fr_aload_n dX1_judgeWeights_0 rfl ?_
        refine fr_iload_n dX1_judgeWeights_1 rfl ?_
        refine fr_callV kX1_judgeWeights_2 (hpull) (by omega) h1 rfl rfl rfl ?_
        dsimp only [List.set, Option.toList, List.cons_append, List.nil_append]
        refine fr_istore dX1_judgeWeights_5 (by decide) rfl rfl ?_
        dsimp only [List.set, Option.toList, List.cons_append, List.nil_append]
        refine fr_iload_n dX1_judgeWeights_7 rfl ?_
        refine fr_aload_n dX1_judgeWeights_8 rfl ?_
        refine fr_get fX1_judgeWeights_9 h1 rfl ?_
        refine fr_get fX1_judgeWeights_12 h3 rfl ?_
        refine fr_iconst dX1_judgeWeights_15 ?_
        refine fr_isub dX1_judgeWeights_16 ?_
        refine fr_icmp_lt (tgt := 62) dX1_judgeWeights_17 (by decide) (by omega) (by omega) (fun c => ?_) (fun c => ?_)
        · omega
        refine fr_iconst dX1_judgeWeights_20 ?_
        refine fr_iload_n dX1_judgeWeights_21 rfl ?_
        refine fr_isub dX1_judgeWeights_22 ?_
        rw [hlast]
        refine fr_istore dX1_judgeWeights_23 (by decide) rfl rfl ?_
        dsimp only [List.set, Option.toList, List.cons_append, List.nil_append]
        refine fr_iload dX1_judgeWeights_25 rfl ?_
        refine fr_bipush dX1_judgeWeights_27 (by decide) ?_
        refine fr_icmp_lt (tgt := 61) dX1_judgeWeights_29 (by decide) (by omega) (by omega) (fun c => ?_) (fun c => ?_)
        · omega
        refine fr_iload dX1_judgeWeights_32 rfl ?_
        refine fr_iconst dX1_judgeWeights_34 ?_
        refine fr_icmp_gt (tgt := 61) dX1_judgeWeights_35 (by decide) (by omega) (by omega) (fun c => ?_) (fun c => ?_)
        · omega
        refine fr_iload dX1_judgeWeights_38 rfl ?_
        refine fr_iload dX1_judgeWeights_40 rfl ?_
        refine fr_iload dX1_judgeWeights_42 rfl ?_
        refine fr_imul dX1_judgeWeights_44 ?_
        refine fr_iadd dX1_judgeWeights_45 ?_
        refine fr_if_le (tgt := 61) dX1_judgeWeights_46 (by decide) (by omega) (fun c => ?_) (fun c => ?_)
        · omega
        refine fr_aload_n dX1_judgeWeights_49 rfl ?_
        refine fr_iload_n dX1_judgeWeights_50 rfl ?_
        refine fr_iconst dX1_judgeWeights_51 ?_
        refine fr_imul dX1_judgeWeights_52 ?_
        refine fr_iload dX1_judgeWeights_53 rfl ?_
        refine fr_iadd dX1_judgeWeights_55 ?_
        refine fr_iconst dX1_judgeWeights_56 ?_
        refine fr_iadd dX1_judgeWeights_57 ?_
        rw [show (x : Int) * 5 + ((u : Int) - 2) + 2 = ((5 * x + u : Nat) : Int) by omega]
        refine fr_callV kX1_judgeWeights_58 (k1) (by omega) h1 rfl rfl rfl ?_
        dsimp only [List.set, Option.toList, List.cons_append, List.nil_append]
        exact fr_vret dX1_judgeWeights_61 rfl rfl (rfl)
      · have hno : ∀ u : Nat, u < 5 → p3 n D (5 * x + u) = false := fun u hu => by
          cases hb : p3 n D (5 * x + u) with
          | false => rfl
          | true => exact absurd ⟨u, hu, hb⟩ hyes
        have hl3 := hskip hl (show 5 * x ≤ 5 * x + 5 by omega) (fun k k1 k2 => by
          obtain ⟨z, rfl⟩ : ∃ z, k = 5 * x + z := ⟨k - 5 * x, by omega⟩
          exact hno z (by omega))
        refine ⟨w, f, ?_, hl3, fun _ _ => rfl, kp.rf⟩
        refine fw_K.of (by decide) (Nat.le_of_ble_eq_true rfl) (by simp [Value.category]) (rfl) ?_
        show fw_R _ _ 0 [some (.ref o), some (.int (iI q)), some (.int (iI x)), some (.int (iI (sumD q x))), some (.int (iI (worD D q x))), none, none, none] [] _ _ _
        refine fr_aload_n dX1_judgeWeights_0 rfl ?_
        refine fr_iload_n dX1_judgeWeights_1 rfl ?_
        refine fr_callV kX1_judgeWeights_2 (hpull) (by omega) h1 rfl rfl rfl ?_
        dsimp only [List.set, Option.toList, List.cons_append, List.nil_append]
        refine fr_istore dX1_judgeWeights_5 (by decide) rfl rfl ?_
        dsimp only [List.set, Option.toList, List.cons_append, List.nil_append]
        refine fr_iload_n dX1_judgeWeights_7 rfl ?_
        refine fr_aload_n dX1_judgeWeights_8 rfl ?_
        refine fr_get fX1_judgeWeights_9 h1 rfl ?_
        refine fr_get fX1_judgeWeights_12 h3 rfl ?_
        refine fr_iconst dX1_judgeWeights_15 ?_
        refine fr_isub dX1_judgeWeights_16 ?_
        refine fr_icmp_lt (tgt := 62) dX1_judgeWeights_17 (by decide) (by omega) (by omega) (fun c => ?_) (fun c => ?_)
        · omega
        refine fr_iconst dX1_judgeWeights_20 ?_
        refine fr_iload_n dX1_judgeWeights_21 rfl ?_
        refine fr_isub dX1_judgeWeights_22 ?_
        refine fr_istore dX1_judgeWeights_23 (by decide) rfl rfl ?_
        dsimp only [List.set, Option.toList, List.cons_append, List.nil_append]
        refine fr_iload dX1_judgeWeights_25 rfl ?_
        refine fr_bipush dX1_judgeWeights_27 (by decide) ?_
        refine fr_icmp_lt (tgt := 61) dX1_judgeWeights_29 (by decide) (by omega) (by omega) (fun c2 => ?_) (fun c2 => ?_)
        · exact fr_vret dX1_judgeWeights_61 rfl rfl (rfl)
        refine fr_iload dX1_judgeWeights_32 rfl ?_
        refine fr_iconst dX1_judgeWeights_34 ?_
        refine fr_icmp_gt (tgt := 61) dX1_judgeWeights_35 (by decide) (by omega) (by omega) (fun c3 => ?_) (fun c3 => ?_)
        · exact fr_vret dX1_judgeWeights_61 rfl rfl (rfl)
        obtain ⟨u, hu⟩ : ∃ u : Nat, 1 - sumD q x = (u : Int) - 2 := ⟨(1 - sumD q x + 2).toNat, by omega⟩
        have hmr := mul_rr (x := 1 - sumD q x) (y := pull D f q q) (c := 2) (e := 360) (by omega) (by omega) (by omega)
        refine fr_iload dX1_judgeWeights_38 rfl ?_
        refine fr_iload dX1_judgeWeights_40 rfl ?_
        refine fr_iload dX1_judgeWeights_42 rfl ?_
        refine fr_imul dX1_judgeWeights_44 ?_
        refine fr_iadd dX1_judgeWeights_45 ?_
        refine fr_if_le (tgt := 61) dX1_judgeWeights_46 (by decide) (by omega) (fun c4 => ?_) (fun c4 => ?_)
        · exact fr_vret dX1_judgeWeights_61 rfl rfl (rfl)
        have := hno u (by omega)
        rw [hp3 u (by omega)] at this
        simp only [decide_eq_false_iff_not] at this
        exact absurd ⟨by omega, by rw [← hu]; omega⟩ this
    · -- a point that has five weights
      have hpw : x * 5 ^ (r + 1) = (5 * x + 0) * 5 ^ r := by rw [Nat.pow_succ, Nat.add_zero, Nat.mul_comm (5 ^ r) 5, ← Nat.mul_assoc, Nat.mul_comm x 5]
      have hpw' : (x + 1) * 5 ^ (r + 1) = (5 * x + 5) * 5 ^ r := by rw [Nat.pow_succ, Nat.mul_comm (5 ^ r) 5, ← Nat.mul_assoc, show (x + 1) * 5 = 5 * x + 5 by omega]
      have hx5 : ∀ u : Nat, u < 5 → 5 * x + u < 5 ^ (q + 1) := fun u hu => by rw [Nat.pow_succ]; omega
      have loop := lpE (M := mX1_judgeWeights) (d := r + 3) (pcH := 66) 5 (fun u _ => [some (.ref o), some (.int (iI q)), some (.int (iI x)), some (.int (iI (sumD q x))), some (.int (iI (worD D q x))), some (.int (iI (pull D f q q))), some (.int (iI ((u : Int) - 2))), none]) (fun u (_ : Unit) v => ∃ g, lsw v o t a wa n D (scF (p3 n D) ((5 * x + u) * 5 ^ r)) (scC (p3 n D) ((5 * x + u) * 5 ^ r)) g ∧ (∀ j, j < q → g j = f j) ∧ kp w v (fun k => k = o ∨ k = wa)) (by
        intro u _ v hu ⟨g, g1, g2, g3⟩
        have how := g1.l.ot
        have gl : lsw (fw_up v wa (.inr (6, .inl (fw_u g q ((u : Int) - 2))))) o t a wa n D (scF (p3 n D) ((5 * x + u) * 5 ^ r)) (scC (p3 n D) ((5 * x + u) * 5 ^ r)) (fw_u g q ((u : Int) - 2)) := by
          obtain ⟨a1, a2, a3, a4⟩ := g1
          exact ⟨a1.ne _ how.2.2.1, a2.kp (kp.up v wa _) (fun z => how.2.2.2.1 z.symm) (fun z => a4 z.symm), a3.up _, a4⟩
        obtain ⟨w2, g', k1, k2, k3, k4⟩ := ih hr0 (q + 1) (5 * x + u) (fw_u g q ((u : Int) - 2)) _ (by omega) (hx5 u hu) gl (by
          intro j hj
          rw [dgt_s]
          by_cases e : j = q
          · subst e; rw [fw_u_self, if_pos rfl, show (5 * x + u) % 5 = u by omega]
          · rw [fw_u_ne _ _ e, if_neg e, show (5 * x + u) / 5 = x by omega, g2 j (by omega), hf j (by omega)])
        refine ⟨(), w2, ⟨g', k2, fun j hj => by rw [k3 j (by omega), fw_u_ne _ _ (by omega)]; exact g2 j hj, (g3.trans ((kp.up v wa _).mono (fun k hk => Or.inr hk))).trans k4⟩, ?_⟩
        intro rr w' kk
        rw [hs5 u hu, hw5 u hu] at k1
        rw [show ((q + 1 : Nat) : Int) = (q : Int) + 1 by omega] at k1
        have hmr := mul_rr (x := (u : Int) - 2) (y := pull D f q q) (c := 2) (e := 360) (by omega) (by omega) (by omega)
        have g11 := g1.1
        have g13 := g1.2.2.1
        have gl1 := gl.1
        refine fr_iload dX1_judgeWeights_66 rfl ?_
        refine fr_iconst dX1_judgeWeights_68 ?_
        refine fr_icmp_gt (tgt := 117) dX1_judgeWeights_69 (by decide) (by omega) (by omega) (fun c => ?_) (fun c => ?_)
        · omega
        refine fr_aload_n dX1_judgeWeights_72 rfl ?_
        refine fr_get fX1_judgeWeights_73 g11 rfl ?_
        refine fr_iload_n dX1_judgeWeights_76 rfl ?_
        refine fr_iload dX1_judgeWeights_77 rfl ?_
        refine fr_iast (q) dX1_judgeWeights_79 g13 (by omega) (by omega) (by decide) ?_
        refine fr_iload_n dX1_judgeWeights_80 rfl ?_
        refine fr_iconst dX1_judgeWeights_81 ?_
        refine fr_imul dX1_judgeWeights_82 ?_
        refine fr_iload dX1_judgeWeights_83 rfl ?_
        refine fr_iadd dX1_judgeWeights_85 ?_
        refine fr_iconst dX1_judgeWeights_86 ?_
        refine fr_iadd dX1_judgeWeights_87 ?_
        rw [show (x : Int) * 5 + ((u : Int) - 2) + 2 = ((5 * x + u : Nat) : Int) by omega]
        refine fr_istore dX1_judgeWeights_88 (by decide) rfl rfl ?_
        dsimp only [List.set, Option.toList, List.cons_append, List.nil_append]
        refine fr_aload_n dX1_judgeWeights_90 rfl ?_
        refine fr_iload_n dX1_judgeWeights_91 rfl ?_
        refine fr_iconst dX1_judgeWeights_92 ?_
        refine fr_iadd dX1_judgeWeights_93 ?_
        refine fr_iload dX1_judgeWeights_94 rfl ?_
        refine fr_iload_n dX1_judgeWeights_96 rfl ?_
        refine fr_iload dX1_judgeWeights_97 rfl ?_
        refine fr_iadd dX1_judgeWeights_99 ?_
        refine fr_iload dX1_judgeWeights_100 rfl ?_
        refine fr_iload dX1_judgeWeights_102 rfl ?_
        refine fr_iload dX1_judgeWeights_104 rfl ?_
        refine fr_imul dX1_judgeWeights_106 ?_
        refine fr_iadd dX1_judgeWeights_107 ?_
        refine fr_callV kX1_judgeWeights_108 (k1) (by omega) gl1 rfl rfl rfl ?_
        dsimp only [List.set, Option.toList, List.cons_append, List.nil_append]
        refine fr_iinc dX1_judgeWeights_111 rfl (by decide) rfl rfl ?_
        dsimp only [List.set, Option.toList, List.cons_append, List.nil_append]
        refine fr_goto (tgt := 66) dX1_judgeWeights_114 (by decide) ?_
        rw [show (u : Int) - 2 + 1 = ((u + 1 : Nat) : Int) - 2 by omega]
        exact kk.wk (by simp [fw_le]))
      rw [hpw] at hl
      obtain ⟨_, wE, ⟨g, e1, e2, e3⟩, hr⟩ := loop 0 () w (by omega) ⟨f, hl, fun _ _ => rfl, kp.rf⟩
      refine ⟨wE, g, ?_, by rw [hpw']; exact e1, e2, e3⟩
      refine fw_K.of (by decide) (Nat.le_of_ble_eq_true rfl) (by simp [Value.category]) (e3.1) ?_
      show fw_R _ _ 0 [some (.ref o), some (.int (iI q)), some (.int (iI x)), some (.int (iI (sumD q x))), some (.int (iI (worD D q x))), none, none, none] [] _ _ _
      refine fr_aload_n dX1_judgeWeights_0 rfl ?_
      refine fr_iload_n dX1_judgeWeights_1 rfl ?_
      refine fr_callV kX1_judgeWeights_2 (hpull) (by omega) h1 rfl rfl rfl ?_
      dsimp only [List.set, Option.toList, List.cons_append, List.nil_append]
      refine fr_istore dX1_judgeWeights_5 (by decide) rfl rfl ?_
      dsimp only [List.set, Option.toList, List.cons_append, List.nil_append]
      refine fr_iload_n dX1_judgeWeights_7 rfl ?_
      refine fr_aload_n dX1_judgeWeights_8 rfl ?_
      refine fr_get fX1_judgeWeights_9 h1 rfl ?_
      refine fr_get fX1_judgeWeights_12 h3 rfl ?_
      refine fr_iconst dX1_judgeWeights_15 ?_
      refine fr_isub dX1_judgeWeights_16 ?_
      refine fr_icmp_lt (tgt := 62) dX1_judgeWeights_17 (by decide) (by omega) (by omega) (fun c => ?_) (fun c => ?_)
      · refine fr_bipush dX1_judgeWeights_62 (by decide) ?_
        refine fr_istore dX1_judgeWeights_64 (by decide) rfl rfl ?_
        dsimp only [List.set, Option.toList, List.cons_append, List.nil_append]
        refine hr _ _ ?_
        refine fr_iload dX1_judgeWeights_66 rfl ?_
        refine fr_iconst dX1_judgeWeights_68 ?_
        refine fr_icmp_gt (tgt := 117) dX1_judgeWeights_69 (by decide) (by omega) (by omega) (fun c2 => ?_) (fun c2 => ?_)
        · exact fr_vret dX1_judgeWeights_117 rfl rfl (rfl)
        · omega
      · omega
def bkL (n : Nat) (D : Nat → Nat → Int) (law : Nat) : Nat → Bool := if law = 0 then p0 n D else if law = 1 then p1 n D else if law = 2 then p2 n D else p3 n D
def limL (n law : Nat) : Nat := if law = 3 then 5 ^ n else if law = 1 then 4096 else 512
theorem c_judge {d o t a wa n law : Nat} {D : Nat → Nat → Int} {fc br : Int} {w : fw_S} (hd : 12 ≤ d) (h : lst w o t a wa n D fc br) (hD : okR n D 30) (hlaw : law ≤ 3) : ∃ w', fw_K d mX1_judge [.ref o, .int (iI law)] w none w' ∧ lst w' o t a wa n D (scF (bkL n D law) (limL n law)) (scC (bkL n D law) (limL n law)) ∧ kp w w' (fun k => k = o ∨ k = wa) := by
  have hD2 : okR n D 60 := fun i j hi hj => ⟨(hD i j hi hj).1, by have := (hD i j hi hj).2; omega⟩
  have hn := h.2.1.2.2
  have u1 := h.up (-4) br
  have u2 := u1.up (-4) 0
  have kk0 := ((kp.up w o (.inl (1, [.ref t, .ref wa, .int (iI (-4)), .int (iI br)]))).trans (kp.up _ o (.inl (1, [.ref t, .ref wa, .int (iI (-4)), .int (iI 0)])))).mono (fun k hk => (Or.inl hk : k = o ∨ k = wa))
  have h1 := h.1
  have u11 := u1.1
  have u21 := u2.1
  rcases (show law = 0 ∨ law = 1 ∨ law = 2 ∨ law = 3 by omega) with rfl | rfl | rfl | rfl
  · obtain ⟨w1, k1, k2, k3⟩ := c_judgeDetours (d := 2) (by omega) u2 hD2
    refine ⟨w1, ?_, k2, kk0.trans (k3.mono (fun k hk => Or.inl hk))⟩
    refine fw_K.of (by decide) (Nat.le_of_ble_eq_true rfl) (by simp [Value.category]) ((kk0.trans (k3.mono (fun k hk => Or.inl hk))).1) ?_
    show fw_R _ _ 0 [some (.ref o), some (.int (iI ((0 : Nat) : Int)))] [] _ _ _
    refine fr_aload_n dX1_judge_0 rfl ?_
    refine fr_bipush dX1_judge_1 (by decide) ?_
    refine fr_put fX1_judge_3 pfX1_2 h1 (by simp) rfl ?_
    dsimp only [List.set, Option.toList, List.cons_append, List.nil_append]
    refine fr_aload_n dX1_judge_6 rfl ?_
    refine fr_iconst dX1_judge_7 ?_
    refine fr_put fX1_judge_8 pfX1_3 u11 (by simp) rfl ?_
    dsimp only [List.set, Option.toList, List.cons_append, List.nil_append]
    refine fr_iload_n dX1_judge_11 rfl ?_
    refine fr_tableIn (tgt := 40) dX1_judge_12 (by decide) (by decide) (by decide) rfl (by decide) ?_
    refine fr_aload_n dX1_judge_40 rfl ?_
    refine fr_callV kX1_judge_41 (k1) (by omega) u21 rfl rfl rfl ?_
    dsimp only [List.set, Option.toList, List.cons_append, List.nil_append]
    refine fr_goto (tgt := 69) dX1_judge_44 (by decide) ?_
    exact fr_vret dX1_judge_69 rfl rfl (rfl)
  · obtain ⟨w1, k1, k2, k3⟩ := c_judgeTrees (d := 3) (by omega) u2 hD2
    refine ⟨w1, ?_, k2, kk0.trans (k3.mono (fun k hk => Or.inl hk))⟩
    refine fw_K.of (by decide) (Nat.le_of_ble_eq_true rfl) (by simp [Value.category]) ((kk0.trans (k3.mono (fun k hk => Or.inl hk))).1) ?_
    show fw_R _ _ 0 [some (.ref o), some (.int (iI ((1 : Nat) : Int)))] [] _ _ _
    refine fr_aload_n dX1_judge_0 rfl ?_
    refine fr_bipush dX1_judge_1 (by decide) ?_
    refine fr_put fX1_judge_3 pfX1_2 h1 (by simp) rfl ?_
    dsimp only [List.set, Option.toList, List.cons_append, List.nil_append]
    refine fr_aload_n dX1_judge_6 rfl ?_
    refine fr_iconst dX1_judge_7 ?_
    refine fr_put fX1_judge_8 pfX1_3 u11 (by simp) rfl ?_
    dsimp only [List.set, Option.toList, List.cons_append, List.nil_append]
    refine fr_iload_n dX1_judge_11 rfl ?_
    refine fr_tableIn (tgt := 47) dX1_judge_12 (by decide) (by decide) (by decide) rfl (by decide) ?_
    refine fr_aload_n dX1_judge_47 rfl ?_
    refine fr_callV kX1_judge_48 (k1) (by omega) u21 rfl rfl rfl ?_
    dsimp only [List.set, Option.toList, List.cons_append, List.nil_append]
    refine fr_goto (tgt := 69) dX1_judge_51 (by decide) ?_
    exact fr_vret dX1_judge_69 rfl rfl (rfl)
  · obtain ⟨w1, k1, k2, k3⟩ := c_judgeNests (d := 2) (by omega) u2 hD2
    refine ⟨w1, ?_, k2, kk0.trans (k3.mono (fun k hk => Or.inl hk))⟩
    refine fw_K.of (by decide) (Nat.le_of_ble_eq_true rfl) (by simp [Value.category]) ((kk0.trans (k3.mono (fun k hk => Or.inl hk))).1) ?_
    show fw_R _ _ 0 [some (.ref o), some (.int (iI ((2 : Nat) : Int)))] [] _ _ _
    refine fr_aload_n dX1_judge_0 rfl ?_
    refine fr_bipush dX1_judge_1 (by decide) ?_
    refine fr_put fX1_judge_3 pfX1_2 h1 (by simp) rfl ?_
    dsimp only [List.set, Option.toList, List.cons_append, List.nil_append]
    refine fr_aload_n dX1_judge_6 rfl ?_
    refine fr_iconst dX1_judge_7 ?_
    refine fr_put fX1_judge_8 pfX1_3 u11 (by simp) rfl ?_
    dsimp only [List.set, Option.toList, List.cons_append, List.nil_append]
    refine fr_iload_n dX1_judge_11 rfl ?_
    refine fr_tableIn (tgt := 54) dX1_judge_12 (by decide) (by decide) (by decide) rfl (by decide) ?_
    refine fr_aload_n dX1_judge_54 rfl ?_
    refine fr_callV kX1_judge_55 (k1) (by omega) u21 rfl rfl rfl ?_
    dsimp only [List.set, Option.toList, List.cons_append, List.nil_append]
    refine fr_goto (tgt := 69) dX1_judge_58 (by decide) ?_
    exact fr_vret dX1_judge_69 rfl rfl (rfl)
  · obtain ⟨a1, a2, ⟨f, a3⟩, a4⟩ := u2
    obtain ⟨w1, f', k1, k2, k3, k4⟩ := c_judgeWeights (o := o) (t := t) (a := a) (wa := wa) hD n (by omega) 0 0 f _ (by omega) (by decide) (by rw [Nat.zero_mul]; exact ⟨a1, a2, a3, a4⟩) (fun j hj => absurd hj (Nat.not_lt_zero j))
    rw [Nat.zero_add, Nat.one_mul] at k2
    refine ⟨w1, ?_, k2.l, kk0.trans k4⟩
    refine fw_K.of (by decide) (Nat.le_of_ble_eq_true rfl) (by simp [Value.category]) ((kk0.trans k4).1) ?_
    show fw_R _ _ 0 [some (.ref o), some (.int (iI ((3 : Nat) : Int)))] [] _ _ _
    refine fr_aload_n dX1_judge_0 rfl ?_
    refine fr_bipush dX1_judge_1 (by decide) ?_
    refine fr_put fX1_judge_3 pfX1_2 h1 (by simp) rfl ?_
    dsimp only [List.set, Option.toList, List.cons_append, List.nil_append]
    refine fr_aload_n dX1_judge_6 rfl ?_
    refine fr_iconst dX1_judge_7 ?_
    refine fr_put fX1_judge_8 pfX1_3 u11 (by simp) rfl ?_
    dsimp only [List.set, Option.toList, List.cons_append, List.nil_append]
    refine fr_iload_n dX1_judge_11 rfl ?_
    refine fr_tableOut (tgt := 61) dX1_judge_12 (by decide) (by decide) (by decide) ?_
    refine fr_aload_n dX1_judge_61 rfl ?_
    refine fr_iconst dX1_judge_62 ?_
    refine fr_iconst dX1_judge_63 ?_
    refine fr_iconst dX1_judge_64 ?_
    refine fr_iconst dX1_judge_65 ?_
    refine fr_callV kX1_judge_66 (k1) (by omega) a1 rfl rfl rfl ?_
    dsimp only [List.set, Option.toList, List.cons_append, List.nil_append]
    exact fr_vret dX1_judge_69 rfl rfl (rfl)
end
section
/-! peeled: mathematics -/
/-- symmetric, 0 on the diagonal, the three points' law -/
def met (n : Nat) (E : Nat → Nat → Int) : Prop := sym n E ∧ (∀ i, i < n → E i i = 0) ∧ (∀ i j k, i < n → j < n → k < n → E i j ≤ E i k + E k j)
theorem met.nn {n : Nat} {E : Nat → Nat → Int} (h : met n E) {i j : Nat} (hi : i < n) (hj : j < n) : 0 ≤ E i j := by
  have h1 := h.2.2 i i j hi hi hj
  have h2 := h.1 i j hi hj
  have h3 := h.2.1 i hi
  omega
/-- the greatest number of halves of a cut -/
def isMH (n : Nat) (E : Nat → Nat → Int) (cut : Nat) (m : Int) : Prop := m ≤ 60 ∧ (∀ a i k, a < n → i < n → k < n → pt cut a i = true → pt cut a k = true → m ≤ (E i a + E a k - E i k).tdiv 2) ∧ (m = 60 ∨ ∃ a i k, a < n ∧ i < n ∧ k < n ∧ pt cut a i = true ∧ pt cut a k = true ∧ m = (E i a + E a k - E i k).tdiv 2)
theorem isMH.uniq {n cut : Nat} {E : Nat → Nat → Int} {m m' : Int} (h : isMH n E cut m) (h' : isMH n E cut m') : m = m' := by
  obtain ⟨a1, a2, a3⟩ := h
  obtain ⟨b1, b2, b3⟩ := h'
  have l1 : m ≤ m' := by
    rcases b3 with e | ⟨a, i, k, ha, hi, hk, p, q, e⟩
    · omega
    · rw [e]; exact a2 a i k ha hi hk p q
  have l2 : m' ≤ m := by
    rcases a3 with e | ⟨a, i, k, ha, hi, hk, p, q, e⟩
    · omega
    · rw [e]; exact b2 a i k ha hi hk p q
  omega
noncomputable def mh (n : Nat) (E : Nat → Nat → Int) (cut : Nat) : Int := @dite _ (∃ m, isMH n E cut m) (Classical.propDecidable _) (fun h => Classical.choose h) (fun _ => 0)
theorem mh_eq {n cut : Nat} {E : Nat → Nat → Int} {m : Int} (h : isMH n E cut m) : mh n E cut = m := by
  have hx : ∃ m, isMH n E cut m := ⟨m, h⟩
  unfold mh
  rw [dif_pos hx]
  exact (Classical.choose_spec hx).uniq h
theorem isMH.nn {n cut : Nat} {E : Nat → Nat → Int} {m : Int} (hE : met n E) (h : isMH n E cut m) : 0 ≤ m := by
  rcases h.2.2 with e | ⟨a, i, k, ha, hi, hk, p, q, e⟩
  · omega
  · have := hE.2.2 i k a hi hk ha
    rw [e]
    exact Int.tdiv_nonneg (by omega) (by omega)
theorem td2 {z : Int} (h : 0 ≤ z) : z.tdiv 2 = z / 2 := Int.tdiv_eq_ediv_of_nonneg h
theorem pt_tri (cut i j k : Nat) : pt cut i j = (pt cut i k != pt cut k j) := by
  unfold pt; cases cut.testBit i <;> cases cut.testBit j <;> cases cut.testBit k <;> rfl
theorem met.cut {n cut : Nat} {E : Nat → Nat → Int} {m : Int} (hE : met n E) (h : isMH n E cut m) : met n (cutD E cut (-m)) := by
  have hm := h.nn hE
  refine ⟨fun i j hi hj => ?_, fun i hi => ?_, fun i j k hi hj hk => ?_⟩
  · unfold cutD; rw [pt_symm cut i j, hE.1 i j hi hj]
  · unfold cutD; rw [pt_self]; simp; exact hE.2.1 i hi
  · have h1 := hE.2.2 i j k hi hj hk
    have h3 := pt_tri cut i j k
    unfold cutD
    cases h4 : pt cut i k <;> cases h5 : pt cut k j <;> rw [h4, h5] at h3
    · rw [h3]; simpa using h1
    · rw [h3]; simp; omega
    · rw [h3]; simp; omega
    · rw [h3]
      have h6 := h.2.1 k i j hk hi hj (by rw [pt_symm]; exact h4) h5
      rw [td2 (by omega)] at h6
      simp
      omega
theorem cutD_le {n cut : Nat} {E : Nat → Nat → Int} {m : Int} (hm : 0 ≤ m) (h : okR n E 60) (hE : met n (cutD E cut (-m))) : okR n (cutD E cut (-m)) 60 := by
  intro i j hi hj
  refine ⟨hE.nn hi hj, ?_⟩
  have := (h i j hi hj).2
  unfold cutD; split <;> omega
/-- what is left, and what was taken, once s cuts are off (b: the law held) -/
noncomputable def plE (n : Nat) (D : Nat → Nat → Int) (b : Bool) : Nat → Nat → Nat → Int
  | 0 => fun i j => 2 * D i j
  | s + 1 => cutD (plE n D b s) (2 * (s + 1)) (-(if b = true then mh n (plE n D b s) (2 * (s + 1)) else 0))
noncomputable def plM (n : Nat) (D : Nat → Nat → Int) (b : Bool) (s : Nat) : Int := if b = true then mh n (plE n D b s) (2 * (s + 1)) else 0
theorem plE_s (n : Nat) (D : Nat → Nat → Int) (b : Bool) (s : Nat) : plE n D b (s + 1) = cutD (plE n D b s) (2 * (s + 1)) (-(plM n D b s)) := rfl
theorem mh_all (n : Nat) (E : Nat → Nat → Int) (cut : Nat) : ∃ m, isMH n E cut m := by
  -- by triples, one after another
  have step : ∀ (L : List (Nat × Nat × Nat)), (∀ q ∈ L, q.1 < n ∧ q.2.1 < n ∧ q.2.2 < n) → ∃ m : Int, m ≤ 60 ∧ (∀ q ∈ L, pt cut q.1 q.2.1 = true → pt cut q.1 q.2.2 = true → m ≤ (E q.2.1 q.1 + E q.1 q.2.2 - E q.2.1 q.2.2).tdiv 2) ∧ (m = 60 ∨ ∃ a i k, a < n ∧ i < n ∧ k < n ∧ pt cut a i = true ∧ pt cut a k = true ∧ m = (E i a + E a k - E i k).tdiv 2) := by
    intro L
    induction L with
    | nil => intro _; exact ⟨60, by omega, fun q hq => (by cases hq), Or.inl rfl⟩
    | cons q L ih =>
      intro hL
      obtain ⟨m, h1, h2, h3⟩ := ih (fun x hx => hL x (List.mem_cons_of_mem _ hx))
      have hq := hL q List.mem_cons_self
      by_cases hc : pt cut q.1 q.2.1 = true ∧ pt cut q.1 q.2.2 = true ∧ (E q.2.1 q.1 + E q.1 q.2.2 - E q.2.1 q.2.2).tdiv 2 < m
      · refine ⟨(E q.2.1 q.1 + E q.1 q.2.2 - E q.2.1 q.2.2).tdiv 2, by omega, fun x hx p1 p2 => ?_, Or.inr ⟨q.1, q.2.1, q.2.2, hq.1, hq.2.1, hq.2.2, hc.1, hc.2.1, rfl⟩⟩
        rcases List.mem_cons.mp hx with rfl | hx
        · exact Int.le_refl _
        · have := h2 x hx p1 p2; omega
      · refine ⟨m, h1, fun x hx p1 p2 => ?_, h3⟩
        rcases List.mem_cons.mp hx with rfl | hx
        · exact Int.not_lt.mp (fun z => hc ⟨p1, p2, z⟩)
        · exact h2 x hx p1 p2
  obtain ⟨m, h1, h2, h3⟩ := step ((List.range n).flatMap fun a => (List.range n).flatMap fun i => (List.range n).map fun k => (a, i, k)) (by
    intro q hq
    simp only [List.mem_flatMap, List.mem_map, List.mem_range] at hq
    obtain ⟨a, ha, i, hi, k, hk, rfl⟩ := hq
    exact ⟨ha, hi, hk⟩)
  refine ⟨m, h1, fun a i k ha hi hk p q => h2 (a, i, k) ?_ p q, h3⟩
  simp only [List.mem_flatMap, List.mem_map, List.mem_range]
  exact ⟨a, ha, i, hi, k, hk, rfl⟩
theorem mh_is (n : Nat) (E : Nat → Nat → Int) (cut : Nat) : isMH n E cut (mh n E cut) := by
  obtain ⟨m, hm⟩ := mh_all n E cut
  rw [mh_eq hm]; exact hm
theorem pl_ok {n : Nat} {D : Nat → Nat → Int} (h60 : okR n D 30) (hD : met n (fun i j => 2 * D i j)) : ∀ s, met n (plE n D true s) ∧ okR n (plE n D true s) 60
  | 0 => ⟨hD, fun i j hi hj => by have := h60 i j hi hj; show 0 ≤ 2 * D i j ∧ 2 * D i j ≤ 60; omega⟩
  | s + 1 => by
    have ih := pl_ok h60 hD s
    have h1 := mh_is n (plE n D true s) (2 * (s + 1))
    rw [plE_s]
    have e : plM n D true s = mh n (plE n D true s) (2 * (s + 1)) := rfl
    rw [e]
    have h2 := ih.1.cut h1
    exact ⟨h2, cutD_le (h1.nn ih.1) ih.2 h2⟩
theorem pl_no {n : Nat} {D : Nat → Nat → Int} : ∀ s, plE n D false s = fun i j => 2 * D i j
  | 0 => rfl
  | s + 1 => by
    rw [plE_s, pl_no s]
    funext i j
    unfold cutD plM
    simp
theorem scC_0 {p : Nat → Bool} : ∀ {m : Nat}, scC p m = 0 ↔ ∀ k, k < m → p k = false
  | 0 => by simp [scC]
  | m + 1 => by
    have ih := scC_0 (p := p) (m := m)
    have hr := scC_r p m
    rw [scC_s]
    constructor
    · intro h
      have hp : p m = false := by
        cases hq : p m with
        | false => rfl
        | true => rw [hq] at h; simp at h; omega
      rw [hp] at h
      intro k hk
      rcases Nat.lt_or_ge k m with h1 | h1
      · exact ih.mp (by simpa using h) k h1
      · rw [show k = m by omega]; exact hp
    · intro h
      rw [h m (by omega), ih.mpr (fun k hk => h k (by omega))]
      rfl
/-- law 0 unbroken: the three points' law -/
theorem law_met {n : Nat} {E : Nat → Nat → Int} {hi : Int} (hn : n ≤ 6) (hs : sym n E) (h0 : ∀ i, i < n → E i i = 0) (hr : okR n E hi) : scC (p0 n E) 512 = 0 ↔ met n E := by
  rw [scC_0]
  constructor
  · intro h
    refine ⟨hs, h0, fun i j k hi hj hk => ?_⟩
    have key : ∀ i j k : Nat, i < n → j < n → k < n → i < j → k ≠ i → k ≠ j → E i j ≤ E i k + E k j := by
      intro i j k hi hj hk hij hki hkj
      have := h (64 * i + 8 * k + j) (by omega)
      unfold p0 at this
      rw [show (64 * i + 8 * k + j) / 64 % 8 = i by omega, show (64 * i + 8 * k + j) / 8 % 8 = k by omega, show (64 * i + 8 * k + j) % 8 = j by omega] at this
      simp only [decide_eq_false_iff_not] at this
      exact Int.not_lt.mp (fun z => this ⟨hi, hk, hj, hij, hki, hkj, z⟩)
    have r1 := hr i k hi hk
    have r2 := hr k j hk hj
    by_cases e1 : i = j
    · subst e1; rw [h0 i hi]; omega
    · by_cases e2 : k = i
      · subst e2; rw [h0 k hk]; omega
      · by_cases e3 : k = j
        · subst e3; rw [h0 k hk]; omega
        · rcases Nat.lt_or_ge i j with h1 | h1
          · exact key i j k hi hj hk h1 e2 e3
          · have := key j i k hj hi hk (by omega) e3 e2
            rw [hs i j hi hj, hs i k hi hk, hs k j hk hj]; omega
  · intro h k _
    unfold p0
    simp only [decide_eq_false_iff_not]
    intro z
    have := h.2.2 (k / 64 % 8) (k % 8) (k / 8 % 8) z.1 z.2.2.1 z.2.1
    omega
end
section
/-! Peeling: at the cells 7 (itself), 1, 2 (the table), 8, 9 (the rest), 10, 11 (its laws), 12 (taken) -/
def pw (w : fw_S) (n : Nat) (D : Nat → Nat → Int) : Prop := fw_g w 7 (.inl (4, [.ref 1, .ref 8, .ref 10, .ref 12])) ∧ tb w 1 2 n D ∧ (∃ x : Int32, fw_g w 8 (.inl (6, [.ref 9, .int x]))) ∧ (∃ f, fw_g w 9 (.inr (36, .inl f))) ∧ (∃ fc br : Int, fw_g w 10 (.inl (1, [.ref 8, .ref 11, .int (iI fc), .int (iI br)]))) ∧ (∃ f, fw_g w 11 (.inr (6, .inl f))) ∧ (∃ f, fw_g w 12 (.inr (64, .inl f)))
theorem c_spareWay {d n i b k : Nat} {E : Nat → Nat → Int} {w : fw_S} (hd : 1 ≤ d) (h7 : fw_g w 7 (.inl (4, [.ref 1, .ref 8, .ref 10, .ref 12]))) (h : tb w 8 9 n E) (hi : i < n) (hb : b < n) (hk : k < n) : fw_K d mX4_spareWay [.ref 7, .int (iI i), .int (iI b), .int (iI k)] w (some (.int (iI (E i b + E b k - E i k)))) w := by
  have h8 := h.1
  refine fw_K.of (by decide) (Nat.le_of_ble_eq_true rfl) (by simp [Value.category]) (rfl) ?_
  show fw_R _ _ 0 [some (.ref 7), some (.int (iI i)), some (.int (iI b)), some (.int (iI k))] [] _ _ _
  refine fr_aload_n dX4_spareWay_0 rfl ?_
  refine fr_get fX4_spareWay_1 h7 rfl ?_
  refine fr_iload_n dX4_spareWay_4 rfl ?_
  refine fr_iload_n dX4_spareWay_5 rfl ?_
  refine fr_callV kX4_spareWay_6 (c_between (d := 0) h hi hb) (by omega) h8 rfl rfl rfl ?_
  dsimp only [List.set, Option.toList, List.cons_append, List.nil_append]
  refine fr_aload_n dX4_spareWay_9 rfl ?_
  refine fr_get fX4_spareWay_10 h7 rfl ?_
  refine fr_iload_n dX4_spareWay_13 rfl ?_
  refine fr_iload_n dX4_spareWay_14 rfl ?_
  refine fr_callV kX4_spareWay_15 (c_between (d := 0) h hb hk) (by omega) h8 rfl rfl rfl ?_
  dsimp only [List.set, Option.toList, List.cons_append, List.nil_append]
  refine fr_iadd dX4_spareWay_18 ?_
  refine fr_aload_n dX4_spareWay_19 rfl ?_
  refine fr_get fX4_spareWay_20 h7 rfl ?_
  refine fr_iload_n dX4_spareWay_23 rfl ?_
  refine fr_iload_n dX4_spareWay_24 rfl ?_
  refine fr_callV kX4_spareWay_25 (c_between (d := 0) h hi hk) (by omega) h8 rfl rfl rfl ?_
  dsimp only [List.set, Option.toList, List.cons_append, List.nil_append]
  refine fr_isub dX4_spareWay_28 ?_
  exact fr_iret dX4_spareWay_29 rfl (rfl) (rfl)
/-- the least so far, of the triples gone through -/
def mhI (n : Nat) (E : Nat → Nat → Int) (cut : Nat) (P : Nat → Nat → Nat → Prop) (m : Int) : Prop := 0 ≤ m ∧ m ≤ 60 ∧ (∀ a i k, a < n → i < n → k < n → P a i k → pt cut a i = true → pt cut a k = true → m ≤ (E i a + E a k - E i k).tdiv 2) ∧ (m = 60 ∨ ∃ a i k, a < n ∧ i < n ∧ k < n ∧ pt cut a i = true ∧ pt cut a k = true ∧ m = (E i a + E a k - E i k).tdiv 2)
theorem mhI.mono {n cut : Nat} {E : Nat → Nat → Int} {P P' : Nat → Nat → Nat → Prop} {m : Int} (h : mhI n E cut P m) (hP : ∀ a i k, a < n → i < n → k < n → P' a i k → P a i k) : mhI n E cut P' m := ⟨h.1, h.2.1, fun a i k ha hi hk p q r => h.2.2.1 a i k ha hi hk (hP a i k ha hi hk p) q r, h.2.2.2⟩
theorem c_mostHalves {d n cut : Nat} {E : Nat → Nat → Int} {w : fw_S} (hd : 2 ≤ d) (h7 : fw_g w 7 (.inl (4, [.ref 1, .ref 8, .ref 10, .ref 12]))) (h : tb w 8 9 n E) (hE : met n E) (hr : okR n E 60) (hc : cut < 64) : fw_K d mX4_mostHalves [.ref 7, .int (iI cut)] w (some (.int (iI (mh n E cut)))) w := by
  have h8 := h.1
  have hn := h.2.2
  have outer := lpE (M := mX4_mostHalves) (d := d) (pcH := 5) n (fun a (m : Int) => [some (.ref 7), some (.int (iI cut)), some (.int (iI m)), some (.int (iI a)), none, none]) (fun a m v => v = w ∧ mhI n E cut (fun a' i k => a' < a ∧ i ≤ k) m) (by
    intro a m v ha ⟨hv, hI⟩
    have mid := lpE (M := mX4_mostHalves) (d := d) (pcH := 19) n (fun i (m : Int) => [some (.ref 7), some (.int (iI cut)), some (.int (iI m)), some (.int (iI a)), some (.int (iI i)), none]) (fun i m v => v = w ∧ mhI n E cut (fun a' i' k => (a' < a ∨ a' = a ∧ i' < i) ∧ i' ≤ k) m) (by
      intro i m v hi ⟨hv, hI⟩
      have inner := lpE (M := mX4_mostHalves) (d := d) (pcH := 35) n (fun k (m : Int) => [some (.ref 7), some (.int (iI cut)), some (.int (iI m)), some (.int (iI a)), some (.int (iI i)), some (.int (iI k))]) (fun k m v => v = w ∧ mhI n E cut (fun a' i' k' => (a' < a ∨ a' = a ∧ (i' < i ∨ i' = i ∧ k' < k)) ∧ i' ≤ k') m) (by
        intro k m v hk ⟨hv, hI⟩
        subst hv
        have r1 := b2_r (pt cut a i)
        have r2 := b2_r (pt cut a k)
        have e1 := hr i a hi ha
        have e2 := hr a k ha hk
        have e3 := hr i k hi hk
        have tri := hE.2.2 i k a hi hk ha
        have t2 := td2 (show 0 ≤ E i a + E a k - E i k by omega)
        have m0 := hI.1
        have m60 := hI.2.1
        by_cases hp : pt cut a i = true ∧ pt cut a k = true
        · refine ⟨min m ((E i a + E a k - E i k).tdiv 2), v, ⟨rfl, by omega, by omega, ?_, ?_⟩, ?_⟩
          · intro a' i' k' ha' hi' hk' hP p q
            by_cases he : a' = a ∧ i' = i ∧ k' = k
            · obtain ⟨rfl, rfl, rfl⟩ := he; exact Int.min_le_right _ _
            · exact Int.le_trans (Int.min_le_left _ _) (hI.2.2.1 a' i' k' ha' hi' hk' (by omega) p q)
          · rcases Int.le_total m ((E i a + E a k - E i k).tdiv 2) with hle | hle
            · rw [Int.min_eq_left hle]; exact hI.2.2.2
            · rw [Int.min_eq_right hle]; exact Or.inr ⟨a, i, k, ha, hi, hk, hp.1, hp.2, rfl⟩
          · intro r w' kk
            refine fr_iload dX4_mostHalves_35 rfl ?_
            refine fr_aload_n dX4_mostHalves_37 rfl ?_
            refine fr_get fX4_mostHalves_38 h7 rfl ?_
            refine fr_get fX4_mostHalves_41 h8 rfl ?_
            refine fr_icmp_ge (tgt := 89) dX4_mostHalves_44 (by decide) (by omega) (by omega) (fun c => ?_) (fun c => ?_)
            · omega
            refine fr_iload_n dX4_mostHalves_47 rfl ?_
            refine fr_iload_n dX4_mostHalves_48 rfl ?_
            refine fr_iload dX4_mostHalves_49 rfl ?_
            refine fr_callS kX4_mostHalves_51 (c_parts 1 cut a i v (by omega) (by omega) (by omega) (by omega)) (by omega) rfl rfl rfl ?_
            dsimp only [List.set, Option.toList, List.cons_append, List.nil_append]
            refine fr_if_eq (tgt := 83) dX4_mostHalves_54 (by decide) (by omega) (fun c => ?_) (fun c => ?_)
            · rw [hp.1] at c; exact absurd c (by decide)
            refine fr_iload_n dX4_mostHalves_57 rfl ?_
            refine fr_iload_n dX4_mostHalves_58 rfl ?_
            refine fr_iload dX4_mostHalves_59 rfl ?_
            refine fr_callS kX4_mostHalves_61 (c_parts 1 cut a k v (by omega) (by omega) (by omega) (by omega)) (by omega) rfl rfl rfl ?_
            dsimp only [List.set, Option.toList, List.cons_append, List.nil_append]
            refine fr_if_eq (tgt := 83) dX4_mostHalves_64 (by decide) (by omega) (fun c => ?_) (fun c => ?_)
            · rw [hp.2] at c; exact absurd c (by decide)
            refine fr_iload_n dX4_mostHalves_67 rfl ?_
            refine fr_aload_n dX4_mostHalves_68 rfl ?_
            refine fr_iload dX4_mostHalves_69 rfl ?_
            refine fr_iload_n dX4_mostHalves_71 rfl ?_
            refine fr_iload dX4_mostHalves_72 rfl ?_
            refine fr_callV kX4_mostHalves_74 (c_spareWay (d := 1) (by omega) h7 h hi ha hk) (by omega) h7 rfl rfl rfl ?_
            dsimp only [List.set, Option.toList, List.cons_append, List.nil_append]
            refine fr_iconst dX4_mostHalves_77 ?_
            refine fr_idiv dX4_mostHalves_78 (by omega) (by omega) (by omega) ?_
            refine fr_min kX4_mostHalves_79 (by omega) (by omega) rfl (by omega) ?_
            refine fr_istore_n dX4_mostHalves_82 rfl (by decide) rfl rfl ?_
            dsimp only [List.set, Option.toList, List.cons_append, List.nil_append]
            refine fr_iinc dX4_mostHalves_83 rfl (by decide) rfl rfl ?_
            dsimp only [List.set, Option.toList, List.cons_append, List.nil_append]
            refine fr_goto (tgt := 35) dX4_mostHalves_86 (by decide) ?_
            exact kk
        · refine ⟨m, v, ⟨rfl, hI.1, hI.2.1, ?_, hI.2.2.2⟩, ?_⟩
          · intro a' i' k' ha' hi' hk' hP p q
            by_cases he : a' = a ∧ i' = i ∧ k' = k
            · obtain ⟨rfl, rfl, rfl⟩ := he; exact absurd ⟨p, q⟩ hp
            · exact hI.2.2.1 a' i' k' ha' hi' hk' (by omega) p q
          · intro r w' kk
            have done : fw_R mX4_mostHalves d 83 [some (.ref 7), some (.int (iI cut)), some (.int (iI m)), some (.int (iI a)), some (.int (iI i)), some (.int (iI k))] [] v r w' := by
              refine fr_iinc dX4_mostHalves_83 rfl (by decide) rfl rfl ?_
              dsimp only [List.set, Option.toList, List.cons_append, List.nil_append]
              refine fr_goto (tgt := 35) dX4_mostHalves_86 (by decide) ?_
              exact kk
            refine fr_iload dX4_mostHalves_35 rfl ?_
            refine fr_aload_n dX4_mostHalves_37 rfl ?_
            refine fr_get fX4_mostHalves_38 h7 rfl ?_
            refine fr_get fX4_mostHalves_41 h8 rfl ?_
            refine fr_icmp_ge (tgt := 89) dX4_mostHalves_44 (by decide) (by omega) (by omega) (fun c => ?_) (fun c => ?_)
            · omega
            refine fr_iload_n dX4_mostHalves_47 rfl ?_
            refine fr_iload_n dX4_mostHalves_48 rfl ?_
            refine fr_iload dX4_mostHalves_49 rfl ?_
            refine fr_callS kX4_mostHalves_51 (c_parts 1 cut a i v (by omega) (by omega) (by omega) (by omega)) (by omega) rfl rfl rfl ?_
            dsimp only [List.set, Option.toList, List.cons_append, List.nil_append]
            refine fr_if_eq (tgt := 83) dX4_mostHalves_54 (by decide) (by omega) (fun c1 => ?_) (fun c1 => ?_)
            · exact done
            refine fr_iload_n dX4_mostHalves_57 rfl ?_
            refine fr_iload_n dX4_mostHalves_58 rfl ?_
            refine fr_iload dX4_mostHalves_59 rfl ?_
            refine fr_callS kX4_mostHalves_61 (c_parts 1 cut a k v (by omega) (by omega) (by omega) (by omega)) (by omega) rfl rfl rfl ?_
            dsimp only [List.set, Option.toList, List.cons_append, List.nil_append]
            refine fr_if_eq (tgt := 83) dX4_mostHalves_64 (by decide) (by omega) (fun c2 => ?_) (fun c2 => ?_)
            · exact done
            · exact absurd ⟨b2_n0.mp c1, b2_n0.mp c2⟩ hp)
      subst hv
      obtain ⟨mE, wE, ⟨e0, eI⟩, hr⟩ := inner i m v (by omega) ⟨rfl, hI.mono (fun a' i' k' _ _ _ p => by omega)⟩
      subst e0
      refine ⟨mE, wE, ⟨rfl, eI.mono (fun a' i' k' _ _ _ p => by omega)⟩, ?_⟩
      intro r w' kk
      refine fr_iload dX4_mostHalves_19 rfl ?_
      refine fr_aload_n dX4_mostHalves_21 rfl ?_
      refine fr_get fX4_mostHalves_22 h7 rfl ?_
      refine fr_get fX4_mostHalves_25 h8 rfl ?_
      refine fr_icmp_ge (tgt := 95) dX4_mostHalves_28 (by decide) (by omega) (by omega) (fun c => ?_) (fun c => ?_)
      · omega
      refine fr_iload dX4_mostHalves_31 rfl ?_
      refine fr_istore dX4_mostHalves_33 (by decide) rfl rfl ?_
      dsimp only [List.set, Option.toList, List.cons_append, List.nil_append]
      refine hr r w' ?_
      refine fr_iload dX4_mostHalves_35 rfl ?_
      refine fr_aload_n dX4_mostHalves_37 rfl ?_
      refine fr_get fX4_mostHalves_38 h7 rfl ?_
      refine fr_get fX4_mostHalves_41 h8 rfl ?_
      refine fr_icmp_ge (tgt := 89) dX4_mostHalves_44 (by decide) (by omega) (by omega) (fun c => ?_) (fun c => ?_)
      · refine fr_iinc dX4_mostHalves_89 rfl (by decide) rfl rfl ?_
        dsimp only [List.set, Option.toList, List.cons_append, List.nil_append]
        refine fr_goto (tgt := 19) dX4_mostHalves_92 (by decide) ?_
        exact kk.wk (by simp [fw_le])
      · omega)
    subst hv
    obtain ⟨mE, wE, ⟨e0, eI⟩, hr⟩ := mid 0 m v (by omega) ⟨rfl, hI.mono (fun a' i' k' _ _ _ p => by omega)⟩
    subst e0
    refine ⟨mE, wE, ⟨rfl, eI.mono (fun a' i' k' _ _ _ p => by omega)⟩, ?_⟩
    intro r w' kk
    refine fr_iload_n dX4_mostHalves_5 rfl ?_
    refine fr_aload_n dX4_mostHalves_6 rfl ?_
    refine fr_get fX4_mostHalves_7 h7 rfl ?_
    refine fr_get fX4_mostHalves_10 h8 rfl ?_
    refine fr_icmp_ge (tgt := 101) dX4_mostHalves_13 (by decide) (by omega) (by omega) (fun c => ?_) (fun c => ?_)
    · omega
    refine fr_iconst dX4_mostHalves_16 ?_
    refine fr_istore dX4_mostHalves_17 (by decide) rfl rfl ?_
    dsimp only [List.set, Option.toList, List.cons_append, List.nil_append]
    refine hr r w' ?_
    refine fr_iload dX4_mostHalves_19 rfl ?_
    refine fr_aload_n dX4_mostHalves_21 rfl ?_
    refine fr_get fX4_mostHalves_22 h7 rfl ?_
    refine fr_get fX4_mostHalves_25 h8 rfl ?_
    refine fr_icmp_ge (tgt := 95) dX4_mostHalves_28 (by decide) (by omega) (by omega) (fun c => ?_) (fun c => ?_)
    · refine fr_iinc dX4_mostHalves_95 rfl (by decide) rfl rfl ?_
      dsimp only [List.set, Option.toList, List.cons_append, List.nil_append]
      refine fr_goto (tgt := 5) dX4_mostHalves_98 (by decide) ?_
      exact kk.wk (by simp [fw_le])
    · omega)
  obtain ⟨mE, wE, ⟨e0, eI⟩, hr⟩ := outer 0 60 w (by omega) ⟨rfl, by omega, by omega, fun a i k _ _ _ p => absurd p.1 (Nat.not_lt_zero a), Or.inl rfl⟩
  subst e0
  have hm : mh n E cut = mE := mh_eq ⟨eI.2.1, fun a i k ha hi hk p q => by
    rcases Nat.le_total i k with hik | hik
    · exact eI.2.2.1 a i k ha hi hk ⟨ha, hik⟩ p q
    · have := eI.2.2.1 a k i ha hk hi ⟨ha, hik⟩ q p
      rw [hE.1 k a hk ha, hE.1 a i ha hi, hE.1 k i hk hi] at this
      rw [show E i a + E a k - E i k = E a k + E i a - E i k by omega]
      exact this, eI.2.2.2⟩
  rw [hm]
  refine fw_K.of (by decide) (Nat.le_of_ble_eq_true rfl) (by simp [Value.category]) (rfl) ?_
  show fw_R _ _ 0 [some (.ref 7), some (.int (iI cut)), none, none, none, none] [] _ _ _
  refine fr_bipush dX4_mostHalves_0 (by decide) ?_
  refine fr_istore_n dX4_mostHalves_2 rfl (by decide) rfl rfl ?_
  dsimp only [List.set, Option.toList, List.cons_append, List.nil_append]
  refine fr_iconst dX4_mostHalves_3 ?_
  refine fr_istore_n dX4_mostHalves_4 rfl (by decide) rfl rfl ?_
  dsimp only [List.set, Option.toList, List.cons_append, List.nil_append]
  refine hr _ _ ?_
  refine fr_iload_n dX4_mostHalves_5 rfl ?_
  refine fr_aload_n dX4_mostHalves_6 rfl ?_
  refine fr_get fX4_mostHalves_7 h7 rfl ?_
  refine fr_get fX4_mostHalves_10 h8 rfl ?_
  refine fr_icmp_ge (tgt := 101) dX4_mostHalves_13 (by decide) (by omega) (by omega) (fun c => ?_) (fun c => ?_)
  · refine fr_iload_n dX4_mostHalves_101 rfl ?_
    exact fr_iret dX4_mostHalves_102 rfl (rfl) (rfl)
  · omega
theorem p2_half {n : Nat} (h : 2 ≤ n ∧ n ≤ 6) : 2 * 2 ^ (n - 1) = 2 ^ n ∧ 2 ≤ 2 ^ (n - 1) ∧ 2 ^ (n - 1) ≤ 32 := by
  obtain ⟨k, rfl⟩ : ∃ k, n = k + 2 := ⟨n - 2, by omega⟩
  have h1 : 2 ^ (k + 1) ≤ 2 ^ 5 := Nat.pow_le_pow_right (by decide) (by omega)
  have h2 : 1 ≤ 2 ^ k := Nat.one_le_two_pow
  rw [show k + 2 - 1 = k + 1 by omega, Nat.pow_succ 2 (k + 1)]
  rw [Nat.pow_succ] at h1 ⊢
  omega
theorem c_takeAll {d n : Nat} {D : Nat → Nat → Int} {w : fw_S} (hd : 6 ≤ d) (h : pw w n D) (hD : okR n D 30) (hsy : sym n D) (h0 : ∀ i, i < n → D i i = 0) (b : Bool) (hb : b = true ↔ met n (fun i j => 2 * D i j)) : ∃ w', fw_K d mX4_takeAll [.ref 7] w none w' ∧ pw w' n D ∧ tb w' 8 9 n (plE n D b (2 ^ (n - 1) - 1)) ∧ (∃ f, fw_g w' 12 (.inr (64, .inl f)) ∧ ∀ s, s < 2 ^ (n - 1) - 1 → f (2 * (s + 1)) = plM n D b s) ∧ kp w w' (fun k => k = 8 ∨ k = 9 ∨ k = 10 ∨ k = 11 ∨ k = 12) := by
  obtain ⟨h7, h1, ⟨x, h8⟩, ⟨f9, h9⟩, ⟨fc, br, h10⟩, ⟨f11, h11⟩, ⟨f12, h12⟩⟩ := h
  have hn := h1.2.2
  have hp := p2_half hn
  have hD2 : okR n (fun i j => 2 * D i j) 60 := fun i j hi hj => by have := hD i j hi hj; show 0 ≤ 2 * D i j ∧ 2 * D i j ≤ 60; omega
  -- the copy
  obtain ⟨w1, a1, a2, a3⟩ := c_copyDoubled (d := 0) h8 h9 h1 (by decide) (by decide)
  have b7 := a3.g (k := 7) (by decide) h7
  have b10 := a3.g (k := 10) (by decide) h10
  have b11 := a3.g (k := 11) (by decide) h11
  have b12 := a3.g (k := 12) (by decide) h12
  have b1 := h1.kp a3 (by decide) (by decide)
  -- the law
  have l1 : lst w1 10 8 9 11 n (fun i j => 2 * D i j) fc br := ⟨b10, a2, ⟨f11, b11⟩, by decide⟩
  have u1 := l1.up (-4) br
  have u2 := u1.up (-4) 0
  obtain ⟨w2, j1, j2, j3⟩ := c_judgeDetours (d := 2) (by omega) u2 hD2
  have kj : kp w1 w2 (fun k => k = 10) := ((kp.up w1 10 _).trans (kp.up _ 10 _)).trans j3
  have hjudge : fw_K 3 mX1_judge [.ref 10, .int (iI 0)] w1 none w2 := by
    have g1 := l1.1
    have g2 := u1.1
    have g3 := u2.1
    refine fw_K.of (by decide) (Nat.le_of_ble_eq_true rfl) (by simp [Value.category]) (kj.1) ?_
    show fw_R _ _ 0 [some (.ref 10), some (.int (iI 0))] [] _ _ _
    refine fr_aload_n dX1_judge_0 rfl ?_
    refine fr_bipush dX1_judge_1 (by decide) ?_
    refine fr_put fX1_judge_3 pfX1_2 g1 (by simp) rfl ?_
    dsimp only [List.set, Option.toList, List.cons_append, List.nil_append]
    refine fr_aload_n dX1_judge_6 rfl ?_
    refine fr_iconst dX1_judge_7 ?_
    refine fr_put fX1_judge_8 pfX1_3 g2 (by simp) rfl ?_
    dsimp only [List.set, Option.toList, List.cons_append, List.nil_append]
    refine fr_iload_n dX1_judge_11 rfl ?_
    refine fr_tableIn (tgt := 40) dX1_judge_12 (by decide) (by decide) (by decide) rfl (by decide) ?_
    refine fr_aload_n dX1_judge_40 rfl ?_
    refine fr_callV kX1_judge_41 (j1) (by omega) g3 rfl rfl rfl ?_
    dsimp only [List.set, Option.toList, List.cons_append, List.nil_append]
    refine fr_goto (tgt := 69) dX1_judge_44 (by decide) ?_
    exact fr_vret dX1_judge_69 rfl rfl (rfl)
  have c7 := kj.g (k := 7) (by decide) b7
  have c11 := kj.g (k := 11) (by decide) b11
  have c12 := kj.g (k := 12) (by decide) b12
  have c1 := b1.kp kj (by decide) (by decide)
  have c10 := j2.1
  have c8 := j2.2.1
  have hlaw := law_met (n := n) (E := fun i j => 2 * D i j) (hi := 60) hn.2 (fun i j hi hj => by show 2 * D i j = 2 * D j i; rw [hsy i j hi hj]) (fun i hi => by show 2 * D i i = 0; rw [h0 i hi]; rfl) hD2
  have hbr := scC_r (p0 n (fun i j => 2 * D i j)) 512
  have hbe : b2 b = 1 ↔ scC (p0 n (fun i j => 2 * D i j)) 512 = 0 := by
    rw [hlaw, ← hb]; cases b <;> simp [b2]
  -- the cuts
  have hsh := iI_shl (m := 1) n (by rw [Nat.one_mul]; have := p2_le hn.2; omega) (by omega)
  rw [Nat.one_mul, ← hp.1] at hsh
  generalize 2 ^ (n - 1) = P at hp hsh ⊢
  have hp1 := hp.2
  have pub : ∀ s, s < P - 1 → 2 * (s + 1) < 64 := fun s hs => by omega
  have lp := lpE (M := mX4_takeAll) (d := d) (pcH := 37) (P - 1) (fun s _ => [some (.ref 7), some (.int (iI (b2 b))), some (.int (iI (2 * ((s : Int) + 1))))]) (fun s (_ : Unit) v => fw_g v 7 (.inl (4, [.ref 1, .ref 8, .ref 10, .ref 12])) ∧ tb v 8 9 n (plE n D b s) ∧ (∃ f, fw_g v 12 (.inr (64, .inl f)) ∧ ∀ s', s' < s → f (2 * (s' + 1)) = plM n D b s') ∧ kp w2 v (fun k => k = 9 ∨ k = 12)) (by
    intro s _ v hs ⟨g7, g8, ⟨f, g12, gf⟩, gk⟩
    have hss := pub s hs
    have hplE : sym n (plE n D b s) ∧ (b = true → met n (plE n D b s) ∧ okR n (plE n D b s) 60) := by
      cases hbb : b with
      | false => rw [pl_no]; exact ⟨fun i j hi hj => by show 2 * D i j = 2 * D j i; rw [hsy i j hi hj], fun z => (by cases z)⟩
      | true => have := pl_ok hD (hb.mp hbb) s; exact ⟨this.1.1, fun _ => this⟩
    have g12' := g12.up (.inr (64, .inl (fw_u f (2 * (s + 1)) (plM n D b s))))
    have g7' := g7.ne (k := 12) (.inr (64, .inl (fw_u f (2 * (s + 1)) (plM n D b s)))) (by decide)
    have g8' := g8.kp (kp.up v 12 (.inr (64, .inl (fw_u f (2 * (s + 1)) (plM n D b s))))) (by decide) (by decide)
    obtain ⟨w3, k1, k2, k3⟩ := c_putCut (d := 2) (cut := 2 * (s + 1)) (by omega) g8' hplE.1 hss (-(plM n D b s))
    refine ⟨(), w3, ⟨k3.g (by decide) g7', k2, ⟨_, k3.g (by decide) g12', fun s' hs' => ?_⟩, (gk.trans ((kp.up v 12 _).mono (fun k hk => Or.inr hk))).trans (k3.mono (fun k hk => Or.inl hk))⟩, ?_⟩
    · by_cases e : s' = s
      · subst e; rw [fw_u_self]
      · rw [fw_u_ne _ _ (by omega)]; exact gf s' (by omega)
    · intro r w' kk
      have g88 := g8.1
      have g88' := g8'.1
      have rb := b2_r b
      rw [show ((2 * (s + 1) : Nat) : Int) = 2 * ((s : Int) + 1) by omega] at k1
      have fin : fw_R mX4_takeAll d 68 [some (.ref 7), some (.int (iI (b2 b))), some (.int (iI (2 * ((s : Int) + 1))))] [.int (iI (plM n D b s)), .int (iI (2 * ((s : Int) + 1))), .ref 12] v r w' := by
        refine fr_iast (2 * (s + 1)) dX4_takeAll_68 g12 (by omega) (by omega) (by decide) ?_
        refine fr_aload_n dX4_takeAll_69 rfl ?_
        refine fr_get fX4_takeAll_70 g7' rfl ?_
        refine fr_iload_n dX4_takeAll_73 rfl ?_
        refine fr_aload_n dX4_takeAll_74 rfl ?_
        refine fr_get fX4_takeAll_75 g7' rfl ?_
        refine fr_iload_n dX4_takeAll_78 rfl ?_
        refine fr_iald (2 * (s + 1)) dX4_takeAll_79 g12' (by omega) (by omega) (by decide) ?_
        rw [fw_u_self]
        refine fr_ineg dX4_takeAll_80 ?_
        refine fr_callV kX4_takeAll_81 (k1) (by omega) g88' rfl rfl rfl ?_
        dsimp only [List.set, Option.toList, List.cons_append, List.nil_append]
        refine fr_iinc dX4_takeAll_84 rfl (by decide) rfl rfl ?_
        dsimp only [List.set, Option.toList, List.cons_append, List.nil_append]
        refine fr_goto (tgt := 37) dX4_takeAll_87 (by decide) ?_
        rw [show 2 * ((s : Int) + 1) + 2 = 2 * (((s + 1 : Nat) : Int) + 1) by omega]
        exact kk
      refine fr_iload_n dX4_takeAll_37 rfl ?_
      refine fr_iconst dX4_takeAll_38 ?_
      refine fr_aload_n dX4_takeAll_39 rfl ?_
      refine fr_get fX4_takeAll_40 g7 rfl ?_
      refine fr_get fX4_takeAll_43 g88 rfl ?_
      refine fr_ishl (((2 * P : Nat) : Int)) dX4_takeAll_46 (hsh) ?_
      refine fr_icmp_ge (tgt := 90) dX4_takeAll_47 (by decide) (by omega) (by omega) (fun c => ?_) (fun c => ?_)
      · omega
      refine fr_aload_n dX4_takeAll_50 rfl ?_
      refine fr_get fX4_takeAll_51 g7 rfl ?_
      refine fr_iload_n dX4_takeAll_54 rfl ?_
      refine fr_iload_n dX4_takeAll_55 rfl ?_
      refine fr_if_eq (tgt := 67) dX4_takeAll_56 (by decide) (by omega) (fun c2 => ?_) (fun c2 => ?_)
      · have hbf := b2_0.mp c2
        have e0 : plM n D b s = 0 := by unfold plM; rw [hbf]; rfl
        rw [e0] at fin
        refine fr_iconst dX4_takeAll_67 ?_
        exact fin
      · have hbt := b2_n0.mp c2
        have e0 : plM n D b s = mh n (plE n D b s) (2 * (s + 1)) := by unfold plM; rw [if_pos hbt]
        rw [e0] at fin
        have hmh := c_mostHalves (d := 2) (by omega) g7 g8 (hplE.2 hbt).1 (hplE.2 hbt).2 hss
        rw [show ((2 * (s + 1) : Nat) : Int) = 2 * ((s : Int) + 1) by omega] at hmh
        refine fr_aload_n dX4_takeAll_59 rfl ?_
        refine fr_iload_n dX4_takeAll_60 rfl ?_
        refine fr_callV kX4_takeAll_61 (hmh) (by omega) g7 rfl rfl rfl ?_
        dsimp only [List.set, Option.toList, List.cons_append, List.nil_append]
        refine fr_goto (tgt := 68) dX4_takeAll_64 (by decide) ?_
        exact fin)
  obtain ⟨_, wE, ⟨e7, e8, ⟨f, e12, ef⟩, ek⟩, hr⟩ := lp 0 () w2 (Nat.zero_le _) ⟨c7, c8, ⟨f12, c12, fun s' hs' => absurd hs' (Nat.not_lt_zero _)⟩, kp.rf⟩
  have kall : kp w wE (fun k => k = 8 ∨ k = 9 ∨ k = 10 ∨ k = 11 ∨ k = 12) := ((a3.mono (fun k hk => by omega)).trans (kj.mono (fun k hk => by omega))).trans (ek.mono (fun k hk => by omega))
  refine ⟨wE, ?_, ⟨e7, h1.kp kall (by decide) (by decide), ⟨_, e8.1⟩, ⟨_, e8.2.1.choose_spec.1⟩, ⟨_, _, ek.g (by decide) c10⟩, ⟨_, ek.g (by decide) c11⟩, ⟨f, e12⟩⟩, e8, ⟨f, e12, ef⟩, kall⟩
  refine fw_K.of (by decide) (Nat.le_of_ble_eq_true rfl) (by simp [Value.category]) (kall.1) ?_
  show fw_R _ _ 0 [some (.ref 7), none, none] [] _ _ _
  have a21 := a2.1
  have h11' := h1.1
  have e81 := e8.1
  have b10' := b10
  refine fr_aload_n dX4_takeAll_0 rfl ?_
  refine fr_get fX4_takeAll_1 h7 rfl ?_
  refine fr_aload_n dX4_takeAll_4 rfl ?_
  refine fr_get fX4_takeAll_5 h7 rfl ?_
  refine fr_callV kX4_takeAll_8 (a1) (by omega) h8 rfl rfl rfl ?_
  dsimp only [List.set, Option.toList, List.cons_append, List.nil_append]
  refine fr_aload_n dX4_takeAll_11 rfl ?_
  refine fr_get fX4_takeAll_12 b7 rfl ?_
  refine fr_iconst dX4_takeAll_15 ?_
  refine fr_callV kX4_takeAll_16 (hjudge) (by omega) b10 rfl rfl rfl ?_
  dsimp only [List.set, Option.toList, List.cons_append, List.nil_append]
  refine fr_aload_n dX4_takeAll_19 rfl ?_
  refine fr_get fX4_takeAll_20 c7 rfl ?_
  refine fr_get fX4_takeAll_23 c10 rfl ?_
  have fin : fw_R mX4_takeAll d 34 [some (.ref 7), none, none] [.int (iI (b2 b))] w2 none wE := by
    refine fr_istore_n dX4_takeAll_34 rfl (by decide) rfl rfl ?_
    dsimp only [List.set, Option.toList, List.cons_append, List.nil_append]
    refine fr_iconst dX4_takeAll_35 ?_
    refine fr_istore_n dX4_takeAll_36 rfl (by decide) rfl rfl ?_
    dsimp only [List.set, Option.toList, List.cons_append, List.nil_append]
    refine hr _ _ ?_
    refine fr_iload_n dX4_takeAll_37 rfl ?_
    refine fr_iconst dX4_takeAll_38 ?_
    refine fr_aload_n dX4_takeAll_39 rfl ?_
    refine fr_get fX4_takeAll_40 e7 rfl ?_
    refine fr_get fX4_takeAll_43 e81 rfl ?_
    refine fr_ishl (((2 * P : Nat) : Int)) dX4_takeAll_46 (hsh) ?_
    refine fr_icmp_ge (tgt := 90) dX4_takeAll_47 (by decide) (by omega) (by omega) (fun c => ?_) (fun c => ?_)
    · exact fr_vret dX4_takeAll_90 rfl rfl (rfl)
    · omega
  refine fr_if_ne (tgt := 33) dX4_takeAll_26 (by decide) (by omega) (fun c => ?_) (fun c => ?_)
  · rw [show b2 b = 0 by have r := b2_r b; by_cases z : b2 b = 1; exact absurd (hbe.mp z) c; omega] at fin
    refine fr_iconst dX4_takeAll_33 ?_
    exact fin
  · rw [hbe.mpr c] at fin
    refine fr_iconst dX4_takeAll_29 ?_
    refine fr_goto (tgt := 34) dX4_takeAll_30 (by decide) ?_
    exact fin
end
section
/-! determinants: mathematics -/
def sumTo (f : Nat → Int) (C : Nat) : Nat → Int
  | 0 => 0
  | m + 1 => sumTo f C m + (if C.testBit m = true then f m else 0)
theorem sumTo_s (f : Nat → Int) (C m : Nat) : sumTo f C (m + 1) = sumTo f C m + (if C.testBit m = true then f m else 0) := rfl
def sumL (f : Nat → Int) : List Nat → Int
  | [] => 0
  | x :: l => f x + sumL f l
theorem sumL_app (f : Nat → Int) : ∀ a b : List Nat, sumL f (a ++ b) = sumL f a + sumL f b
  | [], b => by simp [sumL]
  | x :: a, b => by simp [sumL, sumL_app f a b, Int.add_assoc]
theorem sumTo_L (f : Nat → Int) (C : Nat) : ∀ m, sumTo f C m = sumL f ((List.range m).filter (fun c => C.testBit c))
  | 0 => rfl
  | m + 1 => by
    rw [sumTo_s, List.range_succ, List.filter_append, sumL_app, sumTo_L f C m]
    cases h : C.testBit m <;> simp [h, sumL]
theorem sumL_map (f : Nat → Int) (g : Nat → Nat) : ∀ l, sumL f (l.map g) = sumL (fun c => f (g c)) l
  | [] => rfl
  | x :: l => by simp [sumL, sumL_map f g l]
theorem sumL_cg {f g : Nat → Int} : ∀ {l : List Nat}, (∀ x ∈ l, f x = g x) → sumL f l = sumL g l
  | [], _ => rfl
  | x :: l, h => by
    rw [sumL, sumL, h x List.mem_cons_self, sumL_cg (fun y hy => h y (List.mem_cons_of_mem _ hy))]
theorem sumTo_top {f : Nat → Int} {C : Nat} : ∀ {m k : Nat}, m ≤ k → C < 2 ^ m → sumTo f C k = sumTo f C m := by
  intro m k hk hC
  obtain ⟨j, rfl⟩ : ∃ j, k = m + j := ⟨k - m, by omega⟩
  clear hk
  induction j with
  | zero => rfl
  | succ j ih =>
    rw [show m + (j + 1) = (m + j) + 1 by omega, sumTo_s, ih]
    have h1 : C < 2 ^ (m + j) := Nat.lt_of_lt_of_le hC (Nat.pow_le_pow_right (by decide) (by omega))
    rw [Nat.testBit_lt_two_pow h1]
    simp
def sg (C c : Nat) : Int := if popc (C / 2 ^ (c + 1)) % 2 = 1 then -1 else 1
/-- the determinant of the first k rows and of the columns of C -/
def DC (G : Nat → Nat → Int) (row : Nat → Nat) : Nat → Nat → Int
  | 0, _ => 1
  | k + 1, C => sumTo (fun c => sg C c * (G (row k) c * DC G row k (C - 2 ^ c))) C 5
theorem DC_s (G : Nat → Nat → Int) (row : Nat → Nat) (k C : Nat) : DC G row (k + 1) C = sumTo (fun c => sg C c * (G (row k) c * DC G row k (C - 2 ^ c))) C 5 := rfl
/-- the k-th member of a set (0: the first) -/
def mrow (rows k : Nat) : Nat := ((List.range 6).filter (fun c => rows.testBit c)).getD k 0
/-- the members of rows whose numbers are in K -/
def phi (rows K : Nat) : Nat := (List.range 5).foldl (fun a c => if K.testBit c = true then a + 2 ^ mrow rows c else a) 0
theorem phi_A : ∀ rows : Nat, rows < 32 → ∀ K : Nat, K < 32 → K < 2 ^ popc rows → (List.range 5).filter (fun c => (phi rows K).testBit c) = ((List.range 5).filter (fun c => K.testBit c)).map (mrow rows) := by decide +kernel
theorem phi_B : ∀ rows : Nat, rows < 32 → ∀ K : Nat, K < 32 → K < 2 ^ popc rows → ∀ c : Nat, c < 5 → K.testBit c = true → popc (phi rows K / 2 ^ (mrow rows c + 1)) % 2 = popc (K / 2 ^ (c + 1)) % 2 := by decide +kernel
theorem phi_C : ∀ rows : Nat, rows < 32 → ∀ K : Nat, K < 32 → K < 2 ^ popc rows → ∀ c : Nat, c < 5 → K.testBit c = true → phi rows K - 2 ^ mrow rows c = phi rows (K - 2 ^ c) := by decide +kernel
theorem phi_D : ∀ rows : Nat, rows < 32 → phi rows (2 ^ popc rows - 1) = rows ∧ popc rows ≤ 5 := by decide +kernel
theorem DC_phi (G : Nat → Nat → Int) {rows : Nat} (hr : rows < 32) : ∀ k K : Nat, K < 32 → K < 2 ^ popc rows → DC (fun a b => G (mrow rows a) (mrow rows b)) (fun a => a) k K = DC G (mrow rows) k (phi rows K)
  | 0, _, _, _ => rfl
  | k + 1, K, h1, h2 => by
    rw [DC_s, DC_s, sumTo_L, sumTo_L, phi_A rows hr K h1 h2, sumL_map]
    apply sumL_cg
    intro c hc
    rw [List.mem_filter, List.mem_range] at hc
    have h3 := phi_B rows hr K h1 h2 c hc.1 hc.2
    have h4 := phi_C rows hr K h1 h2 c hc.1 hc.2
    have ih := DC_phi G hr k (K - 2 ^ c) (Nat.lt_of_le_of_lt (Nat.sub_le _ _) h1) (Nat.lt_of_le_of_lt (Nat.sub_le _ _) h2)
    unfold sg
    rw [h3, h4, ih]
/-- g(r + 1, c + 1) -/
def gD (D : Nat → Nat → Int) (r c : Nat) : Int := D 0 (r + 1) * D 0 (r + 1) + D 0 (c + 1) * D 0 (c + 1) - D (r + 1) (c + 1) * D (r + 1) (c + 1)
/-- the determinant of rows and columns of the set -/
def dtS (D : Nat → Nat → Int) (rows : Nat) : Int := DC (gD D) (mrow rows) (popc rows) rows
theorem mr_1 : ∀ s : Nat, s < 64 → ∀ m : Nat, m < 6 → s.testBit m = true → mrow s (bitsN s (m + 1) - 1) = m := by decide +kernel
theorem mr_2 : ∀ s : Nat, s < 64 → ∀ k : Nat, k < 7 → 1 ≤ k → k ≤ popc s → ∃ m : Nat, m < 6 ∧ s.testBit m = true ∧ bitsN s (m + 1) = k := by decide +kernel
theorem mr_3 : ∀ s : Nat, s < 32 → ∀ k : Nat, k < 5 → k < popc s → s.testBit (mrow s k) = true ∧ mrow s k < 5 := by decide +kernel
theorem ix_1 : ∀ r : Nat, r < 64 → iI r ^^^ iI (-1) = iI (-(r : Int) - 1) := by decide +kernel
theorem ia_1 : ∀ c : Nat, c < 64 → ∀ r : Nat, r < 64 → iI c &&& iI (-(r : Int) - 1) = iI ((c - (c &&& r) : Nat) : Int) := by decide +kernel
theorem ia_2 : ∀ c : Nat, c < 64 → ∀ k : Nat, k < 6 → c.testBit k = true → c - (c &&& 2 ^ k) = c - 2 ^ k := by decide +kernel
theorem sub_0 : ∀ c : Nat, c < 32 → ∀ r : Nat, r < 32 → c - (c &&& r) = 0 → popc c ≤ popc r := by decide +kernel
theorem sub_1 : ∀ c : Nat, c < 32 → ∀ r : Nat, r < 32 → ∀ k : Nat, k < 5 → c - (c &&& r) = 0 → c.testBit k = true → (c - 2 ^ k) - ((c - 2 ^ k) &&& r) = 0 := by decide +kernel
theorem sub_2 : ∀ c : Nat, c < 32 → ∀ k : Nat, k < 5 → c.testBit k = true → popc (c - 2 ^ k) + 1 = popc c := by decide +kernel
theorem tb_le {c k : Nat} (h : c.testBit k = true) : 2 ^ k ≤ c := Nat.ge_two_pow_of_testBit h
end
section
/-! Minors -/
def cmpL (x y : Int64) : Int := if y < x then 1 else if x = y then 0 else -1
theorem cmpL_eq (x y : Int64) : lg_cmp x y = iI (cmpL x y) := by
  unfold lg_cmp cmpL
  by_cases h : y < x
  · rw [if_pos h, if_pos h]; rfl
  · rw [if_neg h, if_neg h]; split <;> rfl
theorem cmpL_r (x y : Int64) : -1 ≤ cmpL x y ∧ cmpL x y ≤ 1 := by unfold cmpL; split; omega; split <;> omega
theorem cmpL_0 (x y : Int64) : cmpL x y = 0 ↔ x = y := by
  unfold cmpL
  split
  next h => simp; intro e; subst e; exact absurd h (by rw [Int64.lt_iff_toInt_lt]; omega)
  next h => split <;> simp_all
theorem cmpL_lt (x y : Int64) : cmpL x y < 0 ↔ x < y := by
  unfold cmpL
  by_cases h1 : y < x
  · rw [if_pos h1]; rw [Int64.lt_iff_toInt_lt] at h1 ⊢; omega
  · rw [if_neg h1]
    by_cases h2 : x = y
    · rw [if_pos h2]; subst h2; rw [Int64.lt_iff_toInt_lt]; omega
    · rw [if_neg h2]; rw [Int64.lt_iff_toInt_lt] at h1 ⊢; rw [← Int64.toInt_inj] at h2; omega
def mi (w : fw_S) (o t a fo n : Nat) (D : Nat → Nat → Int) (f : Nat → Int) : Prop := fw_g w o (.inl (3, [.ref t, .ref fo])) ∧ tb w t a n D ∧ fw_g w fo (.inr (32, .inr f))
theorem mi.ne {w : fw_S} {o t a fo n : Nat} {D : Nat → Nat → Int} {f : Nat → Int} (h : mi w o t a fo n D f) : o ≠ fo ∧ t ≠ fo ∧ a ≠ fo := by
  obtain ⟨h1, ⟨h2, ⟨g, h3, -⟩, -⟩, h4⟩ := h
  exact ⟨h1.oa h4, h2.oa h4, fun q => (by subst q; have := h3.inj h4; cases this)⟩
theorem mi.kp {w w' : fw_S} {o t a fo n : Nat} {D : Nat → Nat → Int} {f g : Nat → Int} (h : mi w o t a fo n D f) (hk : kp w w' (fun k => k = fo)) (hg : fw_g w' fo (.inr (32, .inr g))) : mi w' o t a fo n D g := ⟨hk.g h.ne.1 h.1, h.2.1.kp hk h.ne.2.1 h.ne.2.2, hg⟩
theorem c_square {d o t a fo n i j : Nat} {D : Nat → Nat → Int} {f : Nat → Int} {w : fw_S} (hd : 1 ≤ d) (h : mi w o t a fo n D f) (hD : okR n D 30) (hi : i < n) (hj : j < n) : fw_K d mX3_square [.ref o, .int (iI i), .int (iI j)] w (some (.long (lI (D i j * D i j)))) w := by
  have h1 := h.1
  have h2 := h.2.1
  have h3 := h2.1
  have hr := hD i j hi hj
  refine fw_K.of (by decide) (Nat.le_of_ble_eq_true rfl) (by simp [Value.category]) (rfl) ?_
  show fw_R _ _ 0 [some (.ref o), some (.int (iI i)), some (.int (iI j)), none, none] [] _ _ _
  refine fr_aload_n dX3_square_0 rfl ?_
  refine fr_get fX3_square_1 h1 rfl ?_
  refine fr_iload_n dX3_square_4 rfl ?_
  refine fr_iload_n dX3_square_5 rfl ?_
  refine fr_callV kX3_square_6 (c_between (d := 0) h2 hi hj) (by omega) h3 rfl rfl rfl ?_
  dsimp only [List.set, Option.toList, List.cons_append, List.nil_append]
  refine fr_i2l dX3_square_9 (by omega) ?_
  refine fr_lstore_n dX3_square_10 rfl (by decide) rfl rfl ?_
  dsimp only [List.set, Option.toList, List.cons_append, List.nil_append]
  refine fr_lload_n dX3_square_11 rfl ?_
  refine fr_lload_n dX3_square_12 rfl ?_
  refine fr_lmul dX3_square_13 ?_
  exact fr_lret dX3_square_14 rfl (rfl) (rfl)
theorem c_product {d o t a fo n r c : Nat} {D : Nat → Nat → Int} {f : Nat → Int} {w : fw_S} (hd : 2 ≤ d) (h : mi w o t a fo n D f) (hD : okR n D 30) (hr : r + 1 < n) (hc : c + 1 < n) : fw_K d mX3_product [.ref o, .int (iI r), .int (iI c)] w (some (.long (lI (gD D r c)))) w := by
  have h1 := h.1
  refine fw_K.of (by decide) (Nat.le_of_ble_eq_true rfl) (by simp [Value.category]) (rfl) ?_
  show fw_R _ _ 0 [some (.ref o), some (.int (iI r)), some (.int (iI c))] [] _ _ _
  refine fr_aload_n dX3_product_0 rfl ?_
  refine fr_iconst dX3_product_1 ?_
  refine fr_iload_n dX3_product_2 rfl ?_
  refine fr_iconst dX3_product_3 ?_
  refine fr_iadd dX3_product_4 ?_
  refine fr_callV kX3_product_5 (c_square (d := 1) (i := 0) (j := r + 1) (by omega) h hD (by omega) hr) (by omega) h1 rfl rfl rfl ?_
  dsimp only [List.set, Option.toList, List.cons_append, List.nil_append]
  refine fr_aload_n dX3_product_8 rfl ?_
  refine fr_iconst dX3_product_9 ?_
  refine fr_iload_n dX3_product_10 rfl ?_
  refine fr_iconst dX3_product_11 ?_
  refine fr_iadd dX3_product_12 ?_
  refine fr_callV kX3_product_13 (c_square (d := 1) (i := 0) (j := c + 1) (by omega) h hD (by omega) hc) (by omega) h1 rfl rfl rfl ?_
  dsimp only [List.set, Option.toList, List.cons_append, List.nil_append]
  refine fr_ladd dX3_product_16 ?_
  refine fr_aload_n dX3_product_17 rfl ?_
  refine fr_iload_n dX3_product_18 rfl ?_
  refine fr_iconst dX3_product_19 ?_
  refine fr_iadd dX3_product_20 ?_
  refine fr_iload_n dX3_product_21 rfl ?_
  refine fr_iconst dX3_product_22 ?_
  refine fr_iadd dX3_product_23 ?_
  refine fr_callV kX3_product_24 (c_square (d := 1) (i := r + 1) (j := c + 1) (by omega) h hD hr hc) (by omega) h1 rfl rfl rfl ?_
  dsimp only [List.set, Option.toList, List.cons_append, List.nil_append]
  refine fr_lsub dX3_product_27 ?_
  exact fr_lret dX3_product_28 rfl (rfl) (rfl)
theorem c_memberAt {d s k : Nat} {w : fw_S} (hd : 1 ≤ d) (hs : s < 64) (hk : 1 ≤ k) (hk2 : k ≤ popc s) (hk3 : k < 7) : fw_K d mX3_memberAt [.int (iI s), .int (iI k)] w (some (.int (iI (mrow s (k - 1))))) w := by
  refine fw_K.of (by decide) (Nat.le_of_ble_eq_true rfl) (by simp [Value.category]) (rfl) ?_
  show fw_R _ _ 0 [some (.int (iI s)), some (.int (iI k)), none, none] [] _ _ _
  refine fr_iconst dX3_memberAt_0 ?_
  refine fr_istore_n dX3_memberAt_1 rfl (by decide) rfl rfl ?_
  dsimp only [List.set, Option.toList, List.cons_append, List.nil_append]
  refine fr_iconst dX3_memberAt_2 ?_
  refine fr_istore_n dX3_memberAt_3 rfl (by decide) rfl rfl ?_
  dsimp only [List.set, Option.toList, List.cons_append, List.nil_append]
  refine up_loop (fun m => (∀ m', m' < m → s.testBit m' = true → bitsN s (m' + 1) ≠ k) → fw_R mX3_memberAt d 4 [some (.int (iI s)), some (.int (iI k)), some (.int (iI (bitsN s m))), some (.int (iI m))] [] w (some (.int (iI (mrow s (k - 1))))) w) 6 ?_ ?_ 0 (Nat.zero_le _) (fun m' hm => absurd hm (Nat.not_lt_zero m'))
  · intro hall
    obtain ⟨m, h1, h2, h3⟩ := mr_2 s hs k hk3 hk hk2
    exact absurd h3 (hall m h1 h2)
  · intro m hm ih hall
    have hb : bitsN s m ≤ m := by
      have : ∀ k, bitsN s k ≤ k := by
        intro k
        induction k with
        | zero => exact Nat.le_refl 0
        | succ k ih => unfold bitsN; omega
      exact this m
    have e1 : bitsN s (m + 1) = bitsN s m + s / 2 ^ m % 2 := rfl
    have e2 := tbit s m
    have r1 := b2_r (s.testBit m)
    refine fr_iload_n dX3_memberAt_4 rfl ?_
    refine fr_bipush dX3_memberAt_5 (by decide) ?_
    refine fr_icmp_ge (tgt := 34) dX3_memberAt_7 (by decide) (by omega) (by omega) (fun c => ?_) (fun c => ?_)
    · omega
    refine fr_iload_n dX3_memberAt_10 rfl ?_
    refine fr_iload_n dX3_memberAt_11 rfl ?_
    refine fr_callS kX3_memberAt_12 (c_holds 0 s m w (by omega) (by omega)) (by omega) rfl rfl rfl ?_
    dsimp only [List.set, Option.toList, List.cons_append, List.nil_append]
    refine fr_if_eq (tgt := 28) dX3_memberAt_15 (by decide) (by omega) (fun c2 => ?_) (fun c2 => ?_)
    · have c3 := b2_0.mp c2
      have ih := ih (fun m' hm' hb' => by
        by_cases e : m' = m
        · subst e; rw [c3] at hb'; cases hb'
        · exact hall m' (by omega) hb')
      rw [show bitsN s (m + 1) = bitsN s m by omega] at ih
      refine fr_iinc dX3_memberAt_28 rfl (by decide) rfl rfl ?_
      dsimp only [List.set, Option.toList, List.cons_append, List.nil_append]
      refine fr_goto (tgt := 4) dX3_memberAt_31 (by decide) ?_
      exact ih
    · have c3 := b2_n0.mp c2
      rw [c3] at e2
      have e3 : bitsN s (m + 1) = bitsN s m + 1 := by
        have : ((s / 2 ^ m % 2 : Nat) : Int) = 1 := e2
        omega
      refine fr_iinc dX3_memberAt_18 rfl (by decide) rfl rfl ?_
      dsimp only [List.set, Option.toList, List.cons_append, List.nil_append]
      refine fr_iload_n dX3_memberAt_21 rfl ?_
      refine fr_iload_n dX3_memberAt_22 rfl ?_
      refine fr_icmp_ne (tgt := 28) dX3_memberAt_23 (by decide) (by omega) (by omega) (fun c4 => ?_) (fun c4 => ?_)
      · have ih := ih (fun m' hm' hb' => by
          by_cases e : m' = m
          · subst e; omega
          · exact hall m' (by omega) hb')
        rw [e3] at ih
        refine fr_iinc dX3_memberAt_28 rfl (by decide) rfl rfl ?_
        dsimp only [List.set, Option.toList, List.cons_append, List.nil_append]
        refine fr_goto (tgt := 4) dX3_memberAt_31 (by decide) ?_
        exact ih
      · refine fr_iload_n dX3_memberAt_26 rfl ?_
        have h5 := mr_1 s hs m hm c3
        rw [e3, show bitsN s m + 1 - 1 = k - 1 by omega] at h5
        exact fr_iret dX3_memberAt_27 rfl (by rw [h5]) (rfl)
theorem c_expand {d o t a fo n row C : Nat} {D : Nat → Nat → Int} {f : Nat → Int} {w : fw_S} (hd : 3 ≤ d) (h : mi w o t a fo n D f) (hD : okR n D 30) (hrow : row + 1 < n) (hC : C < 2 ^ (n - 1)) : fw_K d mX3_expand [.ref o, .int (iI row), .int (iI C)] w (some (.long (lI (sumTo (fun c => sg C c * (gD D row c * f (C - 2 ^ c))) C 5)))) w := by
  have h1 := h.1
  have h2 := h.2.1
  have h3 := h2.1
  have h4 := h.2.2
  have hn := h2.2.2
  have hp := p2_half hn
  rw [sumTo_top (show n - 1 ≤ 5 by omega) hC]
  have hC32 : C < 32 := Nat.lt_of_lt_of_le hC hp.2.2
  generalize hF : (fun c => sg C c * (gD D row c * f (C - 2 ^ c))) = F
  refine fw_K.of (by decide) (Nat.le_of_ble_eq_true rfl) (by simp [Value.category]) (rfl) ?_
  show fw_R _ _ 0 [some (.ref o), some (.int (iI row)), some (.int (iI C)), none, none, none, none, none, none] [] _ _ _
  refine fr_lconst (z := 0) dX3_expand_0 (by decide) ?_
  refine fr_lstore_n dX3_expand_1 rfl (by decide) rfl rfl ?_
  dsimp only [List.set, Option.toList, List.cons_append, List.nil_append]
  refine fr_iconst dX3_expand_2 ?_
  refine fr_istore dX3_expand_3 (by decide) rfl rfl ?_
  dsimp only [List.set, Option.toList, List.cons_append, List.nil_append]
  refine up_loop (fun c => fw_R mX3_expand d 5 [some (.ref o), some (.int (iI row)), some (.int (iI C)), some (.long (lI (sumTo F C c))), none, some (.int (iI c)), none, none, none] [] w (some (.long (lI (sumTo F C (n - 1))))) w) (n - 1) ?_ ?_ 0 (Nat.zero_le _)
  · refine fr_iload dX3_expand_5 rfl ?_
    refine fr_aload_n dX3_expand_7 rfl ?_
    refine fr_get fX3_expand_8 h1 rfl ?_
    refine fr_get fX3_expand_11 h3 rfl ?_
    refine fr_iconst dX3_expand_14 ?_
    refine fr_isub dX3_expand_15 ?_
    refine fr_icmp_ge (tgt := 95) dX3_expand_16 (by decide) (by omega) (by omega) (fun c => ?_) (fun c => ?_)
    · refine fr_lload_n dX3_expand_95 rfl ?_
      exact fr_lret dX3_expand_96 rfl (rfl) (rfl)
    · omega
  · intro c hc ih
    have rb := b2_r (C.testBit c)
    rw [sumTo_s] at ih
    refine fr_iload dX3_expand_5 rfl ?_
    refine fr_aload_n dX3_expand_7 rfl ?_
    refine fr_get fX3_expand_8 h1 rfl ?_
    refine fr_get fX3_expand_11 h3 rfl ?_
    refine fr_iconst dX3_expand_14 ?_
    refine fr_isub dX3_expand_15 ?_
    refine fr_icmp_ge (tgt := 95) dX3_expand_16 (by decide) (by omega) (by omega) (fun c1 => ?_) (fun c1 => ?_)
    · omega
    refine fr_iload_n dX3_expand_19 rfl ?_
    refine fr_iload dX3_expand_20 rfl ?_
    refine fr_callS kX3_expand_22 (c_holds 0 C c w (by omega) (by omega)) (by omega) rfl rfl rfl ?_
    dsimp only [List.set, Option.toList, List.cons_append, List.nil_append]
    refine fr_if_eq (tgt := 89) dX3_expand_25 (by decide) (by omega) (fun c2 => ?_) (fun c2 => ?_)
    · rw [b2_0.mp c2, if_neg (by decide), Int.add_zero] at ih
      refine fr_iinc dX3_expand_89 rfl (by decide) rfl rfl ?_
      dsimp only [List.set, Option.toList, List.cons_append, List.nil_append]
      refine fr_goto (tgt := 5) dX3_expand_92 (by decide) ?_
      exact ih.wk (by simp [fw_le])
    · have hb := b2_n0.mp c2
      rw [hb, if_pos rfl, ← hF] at ih
      rw [hF] at ih
      have hle := tb_le hb
      have hsh := iI_shl (m := 1) c (by rw [Nat.one_mul]; omega) (by omega)
      rw [Nat.one_mul] at hsh
      have hix := ix_1 (2 ^ c) (by omega)
      have hia := ia_1 C (by omega) (2 ^ c) (by omega)
      rw [ia_2 C (by omega) c (by omega) hb] at hia
      have hlt : C - 2 ^ c < 32 := Nat.lt_of_le_of_lt (Nat.sub_le _ _) hC32
      have hshr := iI_shr (z := (C : Int)) (c + 1) (by omega) (by omega)
      have e0 : ((C : Int) / 2 ^ (c + 1)) = ((C / 2 ^ (c + 1) : Nat) : Int) := by norm_cast
      rw [e0] at hshr
      have hdl : C / 2 ^ (c + 1) < 64 := Nat.lt_of_le_of_lt (Nat.div_le_self _ _) (by omega)
      have hpc := popc_r (C / 2 ^ (c + 1))
      have hand := iI_andp (m := popc (C / 2 ^ (c + 1))) 1 (by decide) (by omega)
      generalize hC2 : C - 2 ^ c = C2 at hia hlt ih
      refine fr_aload_n dX3_expand_28 rfl ?_
      refine fr_iload_n dX3_expand_29 rfl ?_
      refine fr_iload dX3_expand_30 rfl ?_
      refine fr_callV kX3_expand_32 (c_product (d := 2) (by omega) h hD hrow (by omega)) (by omega) h1 rfl rfl rfl ?_
      dsimp only [List.set, Option.toList, List.cons_append, List.nil_append]
      refine fr_aload_n dX3_expand_35 rfl ?_
      refine fr_get fX3_expand_36 h1 rfl ?_
      refine fr_iload_n dX3_expand_39 rfl ?_
      refine fr_iconst dX3_expand_40 ?_
      refine fr_iload dX3_expand_41 rfl ?_
      refine fr_ishl (((2 ^ c : Nat) : Int)) dX3_expand_43 (hsh) ?_
      refine fr_iconst dX3_expand_44 ?_
      refine fr_ixor ((-((2 ^ c : Nat) : Int) - 1)) dX3_expand_45 (hix) ?_
      refine fr_iand ((C2 : Int)) dX3_expand_46 (hia) ?_
      refine fr_lald (C2) dX3_expand_47 h4 (by omega) (by omega) (by decide) ?_
      refine fr_lmul dX3_expand_48 ?_
      have fin : ∀ q : Bool, (q = true ↔ popc (C / 2 ^ (c + 1)) % 2 = 1) → fw_R mX3_expand d 71 [some (.ref o), some (.int (iI row)), some (.int (iI C)), some (.long (lI (sumTo F C c))), none, some (.int (iI c)), some (.long (lI (gD D row c * f C2))), none, none] [.int (iI (b2 q))] w (some (.long (lI (sumTo F C (n - 1))))) w := by
        intro q hq
        have rq := b2_r q
        refine fr_istore dX3_expand_71 (by decide) rfl rfl ?_
        dsimp only [List.set, Option.toList, List.cons_append, List.nil_append]
        refine fr_lload_n dX3_expand_73 rfl ?_
        refine fr_iload dX3_expand_74 rfl ?_
        refine fr_if_eq (tgt := 85) dX3_expand_76 (by decide) (by omega) (fun c5 => ?_) (fun c5 => ?_)
        · have e1 : F c = gD D row c * f C2 := by
            rw [← hF]; show sg C c * (gD D row c * f (C - 2 ^ c)) = _
            rw [hC2, sg, if_neg (fun z => by rw [hq.mpr z] at c5; exact absurd c5 (by decide)), Int.one_mul]
          rw [e1] at ih
          refine fr_lload dX3_expand_85 rfl ?_
          refine fr_ladd dX3_expand_87 ?_
          refine fr_lstore_n dX3_expand_88 rfl (by decide) rfl rfl ?_
          dsimp only [List.set, Option.toList, List.cons_append, List.nil_append]
          refine fr_iinc dX3_expand_89 rfl (by decide) rfl rfl ?_
          dsimp only [List.set, Option.toList, List.cons_append, List.nil_append]
          refine fr_goto (tgt := 5) dX3_expand_92 (by decide) ?_
          exact ih.wk (by simp [fw_le])
        · have e1 : F c = -(gD D row c * f C2) := by
            rw [← hF]; show sg C c * (gD D row c * f (C - 2 ^ c)) = _
            rw [hC2, sg, if_pos (hq.mp (b2_n0.mp c5)), Int.neg_one_mul]
          rw [e1] at ih
          refine fr_lload dX3_expand_79 rfl ?_
          refine fr_lneg dX3_expand_81 ?_
          refine fr_goto (tgt := 87) dX3_expand_82 (by decide) ?_
          refine fr_ladd dX3_expand_87 ?_
          refine fr_lstore_n dX3_expand_88 rfl (by decide) rfl rfl ?_
          dsimp only [List.set, Option.toList, List.cons_append, List.nil_append]
          refine fr_iinc dX3_expand_89 rfl (by decide) rfl rfl ?_
          dsimp only [List.set, Option.toList, List.cons_append, List.nil_append]
          refine fr_goto (tgt := 5) dX3_expand_92 (by decide) ?_
          exact ih.wk (by simp [fw_le])
      refine fr_lstore dX3_expand_49 (by decide) rfl rfl ?_
      dsimp only [List.set, Option.toList, List.cons_append, List.nil_append]
      refine fr_iload_n dX3_expand_51 rfl ?_
      refine fr_iload dX3_expand_52 rfl ?_
      refine fr_iconst dX3_expand_54 ?_
      refine fr_iadd dX3_expand_55 ?_
      refine fr_ishr (((C / 2 ^ (c + 1) : Nat) : Int)) dX3_expand_56 (hshr) ?_
      refine fr_callS kX3_expand_57 (c_bitCount (d := 0) hdl) (by omega) rfl rfl rfl ?_
      dsimp only [List.set, Option.toList, List.cons_append, List.nil_append]
      refine fr_iconst dX3_expand_60 ?_
      refine fr_iand (((popc (C / 2 ^ (c + 1)) % 2 ^ 1 : Nat) : Int)) dX3_expand_61 (hand) ?_
      refine fr_iconst dX3_expand_62 ?_
      refine fr_icmp_ne (tgt := 70) dX3_expand_63 (by decide) (by omega) (by omega) (fun c4 => ?_) (fun c4 => ?_)
      · refine fr_iconst dX3_expand_70 ?_
        exact fin false (by simp; omega)
      · refine fr_iconst dX3_expand_66 ?_
        refine fr_goto (tgt := 71) dX3_expand_67 (by decide) ?_
        exact fin true (by simp; omega)
end
section
/-! determinant, noneIsNegative, rank -/
theorem sumTo_cg {f g : Nat → Int} {C : Nat} : ∀ {m : Nat}, (∀ c, c < m → C.testBit c = true → f c = g c) → sumTo f C m = sumTo g C m
  | 0, _ => rfl
  | m + 1, h => by
    rw [sumTo_s, sumTo_s, sumTo_cg (fun c hc => h c (by omega))]
    by_cases hb : C.testBit m = true
    · rw [if_pos hb, if_pos hb, h m (by omega) hb]
    · rw [if_neg hb, if_neg hb]
theorem and_le (c r : Nat) : c - (c &&& r) ≤ c := Nat.sub_le _ _
theorem popc_pos : ∀ c : Nat, c < 64 → 1 ≤ c → 1 ≤ popc c := by decide +kernel
theorem popc_6 : ∀ c : Nat, c < 64 → popc c < 7 := by decide +kernel
theorem subself : ∀ r : Nat, r < 64 → r - (r &&& r) = 0 := by decide +kernel
theorem c_determinant {d o t a fo n rows : Nat} {D : Nat → Nat → Int} {f : Nat → Int} {w : fw_S} (hd : 4 ≤ d) (h : mi w o t a fo n D f) (hD : okR n D 30) (hr : rows < 2 ^ (n - 1)) : ∃ (w' : fw_S) (f' : Nat → Int), fw_K d mX3_determinant [.ref o, .int (iI rows)] w (some (.long (lI (dtS D rows)))) w' ∧ mi w' o t a fo n D f' ∧ kp w w' (fun k => k = fo) := by
  have hn := h.2.1.2.2
  have hp := p2_half hn
  have hr32 : rows < 32 := Nat.lt_of_lt_of_le hr hp.2.2
  have hix := ix_1 rows (by omega)
  have lp := lpE (M := mX3_determinant) (d := d) (pcH := 9) (rows + 1) (fun C _ => [some (.ref o), some (.int (iI rows)), some (.int (iI C))]) (fun C (_ : Unit) v => 1 ≤ C ∧ (∃ g, mi v o t a fo n D g ∧ ∀ c, c < C → c - (c &&& rows) = 0 → g c = DC (gD D) (mrow rows) (popc c) c) ∧ kp w v (fun k => k = fo)) (by
    intro C _ v hC ⟨hC1, ⟨g, g1, g2⟩, g3⟩
    have hia := ia_1 C (by omega) rows (by omega)
    have hle := and_le C rows
    have hg1 := g1.1
    have hg3 := g1.2.2
    have hC32 : C < 32 := by omega
    by_cases hs : C - (C &&& rows) = 0
    · have hp0 := sub_0 C hC32 rows hr32 hs
      have hp1 := popc_pos C (by omega) hC1
      have hp6 := popc_6 C (by omega)
      have hmr := mr_3 rows hr32 (popc C - 1) (by have := (phi_D rows hr32).2; omega) (by omega)
      have hrow : mrow rows (popc C - 1) + 1 < n := by
        have h1 := tb_le hmr.1
        rcases Nat.lt_or_ge (mrow rows (popc C - 1)) (n - 1) with q | q
        · omega
        · have := Nat.pow_le_pow_right (n := 2) (by decide) q
          omega
      have hCn : C < 2 ^ (n - 1) := by omega
      have hval : sumTo (fun c => sg C c * (gD D (mrow rows (popc C - 1)) c * g (C - 2 ^ c))) C 5 = DC (gD D) (mrow rows) (popc C) C := by
        obtain ⟨k, hk⟩ : ∃ k, popc C = k + 1 := ⟨popc C - 1, by omega⟩
        rw [hk, DC_s, show k + 1 - 1 = k by omega]
        apply sumTo_cg
        intro c hc hb
        have h1 := sub_1 C hC32 rows hr32 c hc hs hb
        have h2 := sub_2 C hC32 c hc hb
        have h3 := tb_le hb
        have h4 : 1 ≤ 2 ^ c := Nat.one_le_two_pow
        rw [g2 (C - 2 ^ c) (by omega) h1, show popc (C - 2 ^ c) = k by omega]
      have hex := c_expand (d := d - 1) (by omega) g1 hD hrow hCn
      rw [hval] at hex
      refine ⟨(), fw_up v fo (.inr (32, .inr (fw_u g C (DC (gD D) (mrow rows) (popc C) C)))), ⟨by omega, ⟨_, g1.kp (kp.up v fo _) (hg3.up _), fun c hc hcs => ?_⟩, g3.trans (kp.up v fo _)⟩, ?_⟩
      · by_cases e : c = C
        · subst e; rw [fw_u_self]
        · rw [fw_u_ne _ _ e]; exact g2 c (by omega) hcs
      · intro r w' kk
        refine fr_iload_n dX3_determinant_9 rfl ?_
        refine fr_iload_n dX3_determinant_10 rfl ?_
        refine fr_icmp_gt (tgt := 47) dX3_determinant_11 (by decide) (by omega) (by omega) (fun c => ?_) (fun c => ?_)
        · omega
        refine fr_iload_n dX3_determinant_14 rfl ?_
        refine fr_iload_n dX3_determinant_15 rfl ?_
        refine fr_iconst dX3_determinant_16 ?_
        refine fr_ixor ((-(rows : Int) - 1)) dX3_determinant_17 (hix) ?_
        refine fr_iand (((C - (C &&& rows) : Nat) : Int)) dX3_determinant_18 (hia) ?_
        refine fr_if_ne (tgt := 41) dX3_determinant_19 (by decide) (by omega) (fun c => ?_) (fun c => ?_)
        · omega
        refine fr_aload_n dX3_determinant_22 rfl ?_
        refine fr_get fX3_determinant_23 hg1 rfl ?_
        refine fr_iload_n dX3_determinant_26 rfl ?_
        refine fr_aload_n dX3_determinant_27 rfl ?_
        refine fr_iload_n dX3_determinant_28 rfl ?_
        refine fr_iload_n dX3_determinant_29 rfl ?_
        refine fr_callS kX3_determinant_30 (c_bitCount (d := 0) (by omega)) (by omega) rfl rfl rfl ?_
        dsimp only [List.set, Option.toList, List.cons_append, List.nil_append]
        refine fr_callS kX3_determinant_33 (c_memberAt (d := 1) (by omega) (by omega) hp1 (by omega) hp6) (by omega) rfl rfl rfl ?_
        dsimp only [List.set, Option.toList, List.cons_append, List.nil_append]
        refine fr_iload_n dX3_determinant_36 rfl ?_
        refine fr_callV kX3_determinant_37 (hex) (by omega) hg1 rfl rfl rfl ?_
        dsimp only [List.set, Option.toList, List.cons_append, List.nil_append]
        refine fr_last (C) dX3_determinant_40 hg3 (by omega) (by omega) (by decide) ?_
        refine fr_iinc dX3_determinant_41 rfl (by decide) rfl rfl ?_
        dsimp only [List.set, Option.toList, List.cons_append, List.nil_append]
        refine fr_goto (tgt := 9) dX3_determinant_44 (by decide) ?_
        exact kk
    · refine ⟨(), v, ⟨by omega, ⟨g, g1, fun c hc hcs => ?_⟩, g3⟩, ?_⟩
      · exact g2 c (by rcases Nat.lt_or_ge c C with q | q; exact q; exact absurd (by rw [show C = c by omega]; exact hcs) hs) hcs
      · intro r w' kk
        refine fr_iload_n dX3_determinant_9 rfl ?_
        refine fr_iload_n dX3_determinant_10 rfl ?_
        refine fr_icmp_gt (tgt := 47) dX3_determinant_11 (by decide) (by omega) (by omega) (fun c => ?_) (fun c => ?_)
        · omega
        refine fr_iload_n dX3_determinant_14 rfl ?_
        refine fr_iload_n dX3_determinant_15 rfl ?_
        refine fr_iconst dX3_determinant_16 ?_
        refine fr_ixor ((-(rows : Int) - 1)) dX3_determinant_17 (hix) ?_
        refine fr_iand (((C - (C &&& rows) : Nat) : Int)) dX3_determinant_18 (hia) ?_
        refine fr_if_ne (tgt := 41) dX3_determinant_19 (by decide) (by omega) (fun c => ?_) (fun c => ?_)
        · refine fr_iinc dX3_determinant_41 rfl (by decide) rfl rfl ?_
          dsimp only [List.set, Option.toList, List.cons_append, List.nil_append]
          refine fr_goto (tgt := 9) dX3_determinant_44 (by decide) ?_
          exact kk
        · omega)
  have h3 := h.2.2
  have hb := h.kp (kp.up w fo (.inr (32, .inr (fw_u f 0 1)))) (h3.up _)
  have h1 := h.1
  rcases Nat.eq_zero_or_pos rows with h0 | h0
  · subst h0
    refine ⟨_, _, ?_, hb, kp.up _ _ _⟩
    have hb3 := hb.2.2
    refine fw_K.of (by decide) (Nat.le_of_ble_eq_true rfl) (by simp [Value.category]) (rfl) ?_
    show fw_R _ _ 0 [some (.ref o), some (.int (iI ((0 : Nat) : Int))), none] [] _ _ _
    refine fr_aload_n dX3_determinant_0 rfl ?_
    refine fr_get fX3_determinant_1 h1 rfl ?_
    refine fr_iconst dX3_determinant_4 ?_
    refine fr_lconst (z := 1) dX3_determinant_5 (by decide) ?_
    refine fr_last (0) dX3_determinant_6 h3 (by omega) (by omega) (by decide) ?_
    refine fr_iconst dX3_determinant_7 ?_
    refine fr_istore_n dX3_determinant_8 rfl (by decide) rfl rfl ?_
    dsimp only [List.set, Option.toList, List.cons_append, List.nil_append]
    refine fr_iload_n dX3_determinant_9 rfl ?_
    refine fr_iload_n dX3_determinant_10 rfl ?_
    have hb1 := hb.1
    refine fr_icmp_gt (tgt := 47) dX3_determinant_11 (by decide) (by omega) (by omega) (fun c => ?_) (fun c => ?_)
    · refine fr_aload_n dX3_determinant_47 rfl ?_
      refine fr_get fX3_determinant_48 hb1 rfl ?_
      refine fr_iload_n dX3_determinant_51 rfl ?_
      refine fr_lald (0) dX3_determinant_52 hb3 (by omega) (by omega) (by decide) ?_
      exact fr_lret dX3_determinant_53 rfl (by rw [fw_u_self]; rfl) rfl
    · omega
  · obtain ⟨_, wE, ⟨-, ⟨g, e1, e2⟩, e3⟩, hr⟩ := lp 1 () (fw_up w fo (.inr (32, .inr (fw_u f 0 1)))) (by omega) ⟨Nat.le_refl 1, ⟨_, hb, fun c hc _ => by rw [show c = 0 by omega, fw_u_self]; rfl⟩, kp.up _ _ _⟩
    refine ⟨wE, g, ?_, e1, e3⟩
    have e11 := e1.1
    have e13 := e1.2.2
    refine fw_K.of (by decide) (Nat.le_of_ble_eq_true rfl) (by simp [Value.category]) (e3.1) ?_
    show fw_R _ _ 0 [some (.ref o), some (.int (iI rows)), none] [] _ _ _
    refine fr_aload_n dX3_determinant_0 rfl ?_
    refine fr_get fX3_determinant_1 h1 rfl ?_
    refine fr_iconst dX3_determinant_4 ?_
    refine fr_lconst (z := 1) dX3_determinant_5 (by decide) ?_
    refine fr_last (0) dX3_determinant_6 h3 (by omega) (by omega) (by decide) ?_
    refine fr_iconst dX3_determinant_7 ?_
    refine fr_istore_n dX3_determinant_8 rfl (by decide) rfl rfl ?_
    dsimp only [List.set, Option.toList, List.cons_append, List.nil_append]
    refine hr _ _ ?_
    refine fr_iload_n dX3_determinant_9 rfl ?_
    refine fr_iload_n dX3_determinant_10 rfl ?_
    refine fr_icmp_gt (tgt := 47) dX3_determinant_11 (by decide) (by omega) (by omega) (fun c => ?_) (fun c => ?_)
    · refine fr_aload_n dX3_determinant_47 rfl ?_
      refine fr_get fX3_determinant_48 e11 rfl ?_
      refine fr_iload_n dX3_determinant_51 rfl ?_
      refine fr_lald (rows) dX3_determinant_52 e13 (by omega) (by omega) (by decide) ?_
      exact fr_lret dX3_determinant_53 rfl (by rw [e2 rows (by omega) (subself rows (by omega))]; rfl) rfl
    · omega
theorem c_noneIsNegative {d o t a fo n : Nat} {D : Nat → Nat → Int} {f : Nat → Int} {w : fw_S} (hd : 5 ≤ d) (h : mi w o t a fo n D f) (hD : okR n D 30) (b : Bool) (hb : b = true ↔ ∀ s, 1 ≤ s → s < 2 ^ (n - 1) → ¬ lI (dtS D s) < lI 0) : ∃ (w' : fw_S) (f' : Nat → Int), fw_K d mX3_noneIsNegative [.ref o] w (some (.int (iI (b2 b)))) w' ∧ mi w' o t a fo n D f' ∧ kp w w' (fun k => k = fo) := by
  have hn := h.2.1.2.2
  have hp := p2_half hn
  have hsh := iI_shl (m := 1) (n - 1) (by rw [Nat.one_mul]; omega) (by omega)
  rw [Nat.one_mul] at hsh
  rw [show ((n - 1 : Nat) : Int) = (n : Int) - 1 by omega] at hsh
  have lp := up_loop (fun s => 1 ≤ s → ∀ (v : fw_S) (g : Nat → Int), mi v o t a fo n D g → (∀ s', 1 ≤ s' → s' < s → ¬ lI (dtS D s') < lI 0) → ∃ (w' : fw_S) (f' : Nat → Int), mi w' o t a fo n D f' ∧ kp v w' (fun k => k = fo) ∧ fw_R mX3_noneIsNegative d 2 [some (.ref o), some (.int (iI s))] [] v (some (.int (iI (b2 b)))) w') (2 ^ (n - 1)) ?_ ?_ 1 (by omega) (Nat.le_refl 1) w f h (fun s' h1 h2 => by omega)
  · obtain ⟨w', f', k1, k2, k3⟩ := lp
    refine ⟨w', f', ?_, k1, k2⟩
    refine fw_K.of (by decide) (Nat.le_of_ble_eq_true rfl) (by simp [Value.category]) (k2.1) ?_
    show fw_R _ _ 0 [some (.ref o), none] [] _ _ _
    refine fr_iconst dX3_noneIsNegative_0 ?_
    refine fr_istore_n dX3_noneIsNegative_1 rfl (by decide) rfl rfl ?_
    dsimp only [List.set, Option.toList, List.cons_append, List.nil_append]
    exact k3
  · intro hs1 v g g1 hall
    have g11 := g1.1
    have g12 := g1.2.1.1
    refine ⟨v, g, g1, kp.rf, ?_⟩
    refine fr_iload_n dX3_noneIsNegative_2 rfl ?_
    refine fr_iconst dX3_noneIsNegative_3 ?_
    refine fr_aload_n dX3_noneIsNegative_4 rfl ?_
    refine fr_get fX3_noneIsNegative_5 g11 rfl ?_
    refine fr_get fX3_noneIsNegative_8 g12 rfl ?_
    refine fr_iconst dX3_noneIsNegative_11 ?_
    refine fr_isub dX3_noneIsNegative_12 ?_
    refine fr_ishl (((2 ^ (n - 1) : Nat) : Int)) dX3_noneIsNegative_13 (hsh) ?_
    generalize 2 ^ (n - 1) = P at *
    refine fr_icmp_ge (tgt := 35) dX3_noneIsNegative_14 (by decide) (by omega) (by omega) (fun c => ?_) (fun c => ?_)
    · have : b = true := hb.mpr (fun s h1 h2 => hall s h1 h2)
      subst this
      refine fr_iconst dX3_noneIsNegative_35 ?_
      exact fr_zret dX3_noneIsNegative_36 rfl (by decide) (rfl) (rfl)
    · omega
  · intro s hs ih hs1 v g g1 hall
    have g11 := g1.1
    have g12 := g1.2.1.1
    obtain ⟨v1, g', k1, k2, k3⟩ := c_determinant (d := d - 1) (by omega) g1 hD hs
    have hcr := cmpL_r (lI (dtS D s)) (lI 0)
    have hcl := cmpL_lt (lI (dtS D s)) (lI 0)
    by_cases hneg : lI (dtS D s) < lI 0
    · refine ⟨v1, g', k2, k3, ?_⟩
      refine fr_iload_n dX3_noneIsNegative_2 rfl ?_
      refine fr_iconst dX3_noneIsNegative_3 ?_
      refine fr_aload_n dX3_noneIsNegative_4 rfl ?_
      refine fr_get fX3_noneIsNegative_5 g11 rfl ?_
      refine fr_get fX3_noneIsNegative_8 g12 rfl ?_
      refine fr_iconst dX3_noneIsNegative_11 ?_
      refine fr_isub dX3_noneIsNegative_12 ?_
      refine fr_ishl (((2 ^ (n - 1) : Nat) : Int)) dX3_noneIsNegative_13 (hsh) ?_
      generalize 2 ^ (n - 1) = P at *
      refine fr_icmp_ge (tgt := 35) dX3_noneIsNegative_14 (by decide) (by omega) (by omega) (fun c => ?_) (fun c => ?_)
      · omega
      refine fr_aload_n dX3_noneIsNegative_17 rfl ?_
      refine fr_iload_n dX3_noneIsNegative_18 rfl ?_
      refine fr_callV kX3_noneIsNegative_19 (k1) (by omega) g11 rfl rfl rfl ?_
      dsimp only [List.set, Option.toList, List.cons_append, List.nil_append]
      refine fr_lconst (z := 0) dX3_noneIsNegative_22 (by decide) ?_
      refine fr_lcmp dX3_noneIsNegative_23 ?_
      rw [cmpL_eq]
      refine fr_if_ge (tgt := 29) dX3_noneIsNegative_24 (by decide) (by omega) (fun c2 => ?_) (fun c2 => ?_)
      · exact absurd (hcl.mpr hneg) (by omega)
      · have : b = false := by
          cases hbb : b with
          | false => rfl
          | true => exact absurd hneg (hb.mp hbb s hs1 hs)
        subst this
        refine fr_iconst dX3_noneIsNegative_27 ?_
        exact fr_zret dX3_noneIsNegative_28 rfl (by decide) (rfl) (rfl)
    · obtain ⟨w', f', j1, j2, j3⟩ := ih (by omega) v1 g' k2 (fun s' h1 h2 => by
        by_cases e : s' = s
        · subst e; exact hneg
        · exact hall s' h1 (by omega))
      refine ⟨w', f', j1, k3.trans j2, ?_⟩
      refine fr_iload_n dX3_noneIsNegative_2 rfl ?_
      refine fr_iconst dX3_noneIsNegative_3 ?_
      refine fr_aload_n dX3_noneIsNegative_4 rfl ?_
      refine fr_get fX3_noneIsNegative_5 g11 rfl ?_
      refine fr_get fX3_noneIsNegative_8 g12 rfl ?_
      refine fr_iconst dX3_noneIsNegative_11 ?_
      refine fr_isub dX3_noneIsNegative_12 ?_
      refine fr_ishl (((2 ^ (n - 1) : Nat) : Int)) dX3_noneIsNegative_13 (hsh) ?_
      generalize 2 ^ (n - 1) = P at *
      refine fr_icmp_ge (tgt := 35) dX3_noneIsNegative_14 (by decide) (by omega) (by omega) (fun c => ?_) (fun c => ?_)
      · omega
      refine fr_aload_n dX3_noneIsNegative_17 rfl ?_
      refine fr_iload_n dX3_noneIsNegative_18 rfl ?_
      refine fr_callV kX3_noneIsNegative_19 (k1) (by omega) g11 rfl rfl rfl ?_
      dsimp only [List.set, Option.toList, List.cons_append, List.nil_append]
      refine fr_lconst (z := 0) dX3_noneIsNegative_22 (by decide) ?_
      refine fr_lcmp dX3_noneIsNegative_23 ?_
      rw [cmpL_eq]
      refine fr_if_ge (tgt := 29) dX3_noneIsNegative_24 (by decide) (by omega) (fun c2 => ?_) (fun c2 => ?_)
      · refine fr_iinc dX3_noneIsNegative_29 rfl (by decide) rfl rfl ?_
        dsimp only [List.set, Option.toList, List.cons_append, List.nil_append]
        refine fr_goto (tgt := 2) dX3_noneIsNegative_32 (by decide) ?_
        exact j3
      · exact absurd (hcl.mp c2) hneg
/-- the most members of a set of 1 .. m whose determinant is not 0 -/
def rkS (D : Nat → Nat → Int) : Nat → Nat
  | 0 => 0
  | m + 1 => if lI (dtS D (m + 1)) ≠ lI 0 then max (rkS D m) (popc (m + 1)) else rkS D m
theorem rkS_s (D : Nat → Nat → Int) (m : Nat) : rkS D (m + 1) = if lI (dtS D (m + 1)) ≠ lI 0 then max (rkS D m) (popc (m + 1)) else rkS D m := rfl
theorem rkS_r (D : Nat → Nat → Int) : ∀ m, rkS D m ≤ 10
  | 0 => Nat.zero_le _
  | m + 1 => by
    have := rkS_r D m
    have := popc_r (m + 1)
    rw [rkS_s]; split <;> omega
theorem c_rank {d o t a fo n : Nat} {D : Nat → Nat → Int} {f : Nat → Int} {w : fw_S} (hd : 5 ≤ d) (h : mi w o t a fo n D f) (hD : okR n D 30) : ∃ (w' : fw_S) (f' : Nat → Int), fw_K d mX3_rank [.ref o] w (some (.int (iI (rkS D (2 ^ (n - 1) - 1))))) w' ∧ mi w' o t a fo n D f' ∧ kp w w' (fun k => k = fo) := by
  have hn := h.2.1.2.2
  have hp := p2_half hn
  have hsh := iI_shl (m := 1) (n - 1) (by rw [Nat.one_mul]; omega) (by omega)
  rw [Nat.one_mul] at hsh
  rw [show ((n - 1 : Nat) : Int) = (n : Int) - 1 by omega] at hsh
  have lp := lpE (M := mX3_rank) (d := d) (pcH := 4) (2 ^ (n - 1) - 1) (fun s _ => [some (.ref o), some (.int (iI (rkS D s))), some (.int (iI ((s : Int) + 1)))]) (fun s (_ : Unit) v => (∃ g, mi v o t a fo n D g) ∧ kp w v (fun k => k = fo)) (by
    intro s _ v hs ⟨⟨g, g1⟩, g2⟩
    have g11 := g1.1
    have g12 := g1.2.1.1
    obtain ⟨v1, g', k1, k2, k3⟩ := c_determinant (d := d - 1) (rows := s + 1) (by omega) g1 hD (by omega)
    rw [show ((s + 1 : Nat) : Int) = (s : Int) + 1 by omega] at k1
    have hcr := cmpL_r (lI (dtS D (s + 1))) (lI 0)
    have hcl := cmpL_0 (lI (dtS D (s + 1))) (lI 0)
    have hrk := rkS_r D s
    have hpc := popc_r (s + 1)
    have hbc := c_bitCount (d := 0) (z := s + 1) (w := v1) (by omega)
    rw [show ((s + 1 : Nat) : Int) = (s : Int) + 1 by omega] at hbc
    refine ⟨(), v1, ⟨⟨g', k2⟩, g2.trans k3⟩, ?_⟩
    intro r w' kk
    rw [rkS_s] at kk
    rw [show ((s + 1 : Nat) : Int) = (s : Int) + 1 by omega] at kk
    refine fr_iload_n dX3_rank_4 rfl ?_
    refine fr_iconst dX3_rank_5 ?_
    refine fr_aload_n dX3_rank_6 rfl ?_
    refine fr_get fX3_rank_7 g11 rfl ?_
    refine fr_get fX3_rank_10 g12 rfl ?_
    refine fr_iconst dX3_rank_13 ?_
    refine fr_isub dX3_rank_14 ?_
    refine fr_ishl (((2 ^ (n - 1) : Nat) : Int)) dX3_rank_15 (hsh) ?_
    generalize 2 ^ (n - 1) = P at *
    refine fr_icmp_ge (tgt := 44) dX3_rank_16 (by decide) (by omega) (by omega) (fun c => ?_) (fun c => ?_)
    · omega
    refine fr_aload_n dX3_rank_19 rfl ?_
    refine fr_iload_n dX3_rank_20 rfl ?_
    refine fr_callV kX3_rank_21 (k1) (by omega) g11 rfl rfl rfl ?_
    dsimp only [List.set, Option.toList, List.cons_append, List.nil_append]
    refine fr_lconst (z := 0) dX3_rank_24 (by decide) ?_
    refine fr_lcmp dX3_rank_25 ?_
    rw [cmpL_eq]
    refine fr_if_eq (tgt := 38) dX3_rank_26 (by decide) (by omega) (fun c2 => ?_) (fun c2 => ?_)
    · rw [if_neg (fun z => z (hcl.mp c2))] at kk
      refine fr_iinc dX3_rank_38 rfl (by decide) rfl rfl ?_
      dsimp only [List.set, Option.toList, List.cons_append, List.nil_append]
      refine fr_goto (tgt := 4) dX3_rank_41 (by decide) ?_
      exact kk
    · rw [if_pos (fun z => c2 (hcl.mpr z))] at kk
      rw [show ((max (rkS D s) (popc (s + 1)) : Nat) : Int) = max (rkS D s : Int) (popc (s + 1) : Int) by omega] at kk
      refine fr_iload_n dX3_rank_29 rfl ?_
      refine fr_iload_n dX3_rank_30 rfl ?_
      refine fr_callS kX3_rank_31 (hbc) (by omega) rfl rfl rfl ?_
      dsimp only [List.set, Option.toList, List.cons_append, List.nil_append]
      refine fr_max kX3_rank_34 (by omega) (by omega) rfl (by omega) ?_
      refine fr_istore_n dX3_rank_37 rfl (by decide) rfl rfl ?_
      dsimp only [List.set, Option.toList, List.cons_append, List.nil_append]
      refine fr_iinc dX3_rank_38 rfl (by decide) rfl rfl ?_
      dsimp only [List.set, Option.toList, List.cons_append, List.nil_append]
      refine fr_goto (tgt := 4) dX3_rank_41 (by decide) ?_
      exact kk)
  obtain ⟨_, wE, ⟨⟨g, e1⟩, e2⟩, hr⟩ := lp 0 () w (Nat.zero_le _) ⟨⟨f, h⟩, kp.rf⟩
  refine ⟨wE, g, ?_, e1, e2⟩
  have e11 := e1.1
  have e12 := e1.2.1.1
  have hrk := rkS_r D (2 ^ (n - 1) - 1)
  refine fw_K.of (by decide) (Nat.le_of_ble_eq_true rfl) (by simp [Value.category]) (e2.1) ?_
  show fw_R _ _ 0 [some (.ref o), none, none] [] _ _ _
  refine fr_iconst dX3_rank_0 ?_
  refine fr_istore_n dX3_rank_1 rfl (by decide) rfl rfl ?_
  dsimp only [List.set, Option.toList, List.cons_append, List.nil_append]
  refine fr_iconst dX3_rank_2 ?_
  refine fr_istore_n dX3_rank_3 rfl (by decide) rfl rfl ?_
  dsimp only [List.set, Option.toList, List.cons_append, List.nil_append]
  refine hr _ _ ?_
  refine fr_iload_n dX3_rank_4 rfl ?_
  refine fr_iconst dX3_rank_5 ?_
  refine fr_aload_n dX3_rank_6 rfl ?_
  refine fr_get fX3_rank_7 e11 rfl ?_
  refine fr_get fX3_rank_10 e12 rfl ?_
  refine fr_iconst dX3_rank_13 ?_
  refine fr_isub dX3_rank_14 ?_
  refine fr_ishl (((2 ^ (n - 1) : Nat) : Int)) dX3_rank_15 (hsh) ?_
  generalize 2 ^ (n - 1) = P at *
  refine fr_icmp_ge (tgt := 44) dX3_rank_16 (by decide) (by omega) (by omega) (fun c => ?_) (fun c => ?_)
  · refine fr_iload_n dX3_rank_44 rfl ?_
    exact fr_iret dX3_rank_45 rfl (rfl) (rfl)
  · omega
end
section
/-! ===== two rows of the kit's COUNTS.to-paste (drawers) ===== -/
theorem fb_holes : ∀ (m n : Nat) (f : Nat → Nat), (∀ i, i < n → f i < m) → (∀ i j, i < j → j < n → f i ≠ f j) → n ≤ m := by
  intro m
  induction m with
  | zero =>
    intro n f h1 _
    rcases Nat.eq_zero_or_pos n with h | h
    · omega
    · exact absurd (h1 0 h) (Nat.not_lt_zero _)
  | succ m ih =>
    intro n f h1 h2
    by_cases hx : ∃ i, i < n ∧ f i = m
    · obtain ⟨a, ha, hfa⟩ := hx
      have hg := ih (n - 1) (fun i => if i < a then f i else f (i + 1)) (by
        intro i hi
        by_cases q : i < a
        · simp only [if_pos q]
          have b1 := h1 i (by omega)
          have b2 := h2 i a q ha
          omega
        · simp only [if_neg q]
          have b1 := h1 (i + 1) (by omega)
          have b2 := h2 a (i + 1) (by omega) (by omega)
          omega) (by
        intro i j hij hj
        by_cases q : i < a
        · by_cases r : j < a
          · simp only [if_pos q, if_pos r]
            exact h2 i j hij (by omega)
          · simp only [if_pos q, if_neg r]
            exact h2 i (j + 1) (by omega) (by omega)
        · have r : ¬ j < a := by omega
          simp only [if_neg q, if_neg r]
          exact h2 (i + 1) (j + 1) (by omega) (by omega))
      omega
    · have hg := ih n f (fun i hi => by
        have b1 := h1 i hi
        have b2 : f i ≠ m := fun e => hx ⟨i, hi, e⟩
        omega) h2
      omega
/-- two of them in one place -/
theorem fb_twice {m n : Nat} {f : Nat → Nat} (h : ∀ i, i < n → f i < m) (hm : m < n) : ∃ i j, i < j ∧ j < n ∧ f i = f j := by
  refine Classical.byContradiction fun hx => ?_
  have := fb_holes m n f h (fun i j hij hj e => hx ⟨i, j, hij, hj, e⟩)
  omega
/-- as many as places, none twice: each place is taken -/
theorem fb_onto {n : Nat} {f : Nat → Nat} (h : ∀ i, i < n → f i < n) (h2 : ∀ i j, i < j → j < n → f i ≠ f j) {y : Nat} (hy : y < n) : ∃ i, i < n ∧ f i = y := by
  refine Classical.byContradiction fun hx => ?_
  have hne : ∀ i, i < n → f i ≠ y := fun i hi e => hx ⟨i, hi, e⟩
  have := fb_holes (n - 1) n (fun i => if f i < y then f i else f i - 1) (by
    intro i hi
    have b1 := h i hi
    have b2 := hne i hi
    by_cases q : f i < y
    · simp only [if_pos q]; omega
    · simp only [if_neg q]; omega) (by
    intro i j hij hj
    have b1 := hne i (by omega)
    have b2 := hne j hj
    have b3 := h2 i j hij hj
    by_cases q : f i < y
    · by_cases r : f j < y
      · simp only [if_pos q, if_pos r]; exact b3
      · simp only [if_pos q, if_neg r]; omega
    · by_cases r : f j < y
      · simp only [if_neg q, if_pos r]; omega
      · simp only [if_neg q, if_neg r]; omega)
  omega

/-! orders: mathematics -/
/-- the point at turn t of an order -/
def pAt (o t : Nat) : Nat := o / 2 ^ (3 * t) % 8
theorem pAt_lt (o t : Nat) : pAt o t < 8 := Nat.mod_lt _ (by decide)
/-- the points of the first t turns, as bits -/
def msk (o : Nat) : Nat → Nat
  | 0 => 0
  | t + 1 => msk o t ||| 2 ^ pAt o t
theorem msk_s (o t : Nat) : msk o (t + 1) = msk o t ||| 2 ^ pAt o t := rfl
theorem msk_bit (o i : Nat) : ∀ t, (msk o t).testBit i = true ↔ ∃ e, e < t ∧ pAt o e = i
  | 0 => by simp [msk]
  | t + 1 => by
    rw [msk_s, Nat.testBit_or, Bool.or_eq_true, msk_bit o i t, Nat.testBit_two_pow]
    constructor
    · rintro (⟨e, h1, h2⟩ | h)
      · exact ⟨e, by omega, h2⟩
      · exact ⟨t, by omega, by simpa using h⟩
    · rintro ⟨e, h1, h2⟩
      by_cases q : e = t
      · subst q; right; simpa using h2
      · left; exact ⟨e, by omega, h2⟩
theorem msk_lt (o : Nat) : ∀ t, msk o t < 256
  | 0 => (by show (0 : Nat) < 256; decide)
  | t + 1 => by
    rw [msk_s]
    have h1 := msk_lt o t
    have h2 := pAt_lt o t
    have h3 : 2 ^ pAt o t < 2 ^ 8 := Nat.pow_lt_pow_right (by decide) h2
    exact Nat.or_lt_two_pow (n := 8) h1 h3
/-- an order of n points -/
def vOrd (n o : Nat) : Prop := o < 2 ^ (3 * n) ∧ msk o n = 2 ^ n - 1
theorem vOrd.on {n o : Nat} (h : vOrd n o) : (∀ i, i < n → ∃ e, e < n ∧ pAt o e = i) ∧ (∀ e, e < n → pAt o e < n) := by
  refine ⟨fun i hi => ?_, fun e he => ?_⟩
  · rw [← msk_bit o i n, h.2, Nat.testBit_two_pow_sub_one]; simpa using hi
  · have : (msk o n).testBit (pAt o e) = true := (msk_bit o _ n).mpr ⟨e, he, rfl⟩
    rw [h.2, Nat.testBit_two_pow_sub_one] at this
    simpa using this
theorem onto_inj {n : Nat} {f : Nat → Nat} (h : ∀ i, i < n → ∃ e, e < n ∧ f e = i) : ∀ i j, i < j → j < n → f i ≠ f j := by
  intro i j hij hj hf
  have hg : ∀ y, y < n → ∃ e, (e < n ∧ f e = y) ∧ ∀ k, k < e → ¬ (k < n ∧ f k = y) := fun y hy => by
    obtain ⟨k, h1, h2⟩ := pk_least (fun e => e < n ∧ f e = y) (h y hy)
    exact ⟨k, h1, h2⟩
  have hgt : ∀ y, ∃ e, y < n → ((e < n ∧ f e = y) ∧ ∀ k, k < e → ¬ (k < n ∧ f k = y)) := fun y => by
    by_cases hy : y < n
    · obtain ⟨e, he⟩ := hg y hy; exact ⟨e, fun _ => he⟩
    · exact ⟨0, fun z => absurd z hy⟩
  obtain ⟨g, hgs⟩ := Classical.axiomOfChoice hgt
  have hnj : ∀ y, y < n → g y ≠ j := fun y hy e => by
    have h1 := hgs y hy
    rw [e] at h1
    exact h1.2 i hij ⟨by omega, hf.trans h1.1.2⟩
  have := fb_holes (n - 1) n (fun y => if g y < j then g y else g y - 1) (by
    intro y hy
    have b1 := (hgs y hy).1.1
    have b2 := hnj y hy
    by_cases q : g y < j
    · simp only [if_pos q]; omega
    · simp only [if_neg q]; omega) (by
    intro x y hxy hy
    have b1 := hnj x (by omega)
    have b2 := hnj y hy
    have b3 : g x ≠ g y := fun e => by
      have e1 := (hgs x (by omega)).1.2
      have e2 := (hgs y hy).1.2
      rw [e] at e1
      omega
    by_cases q : g x < j <;> by_cases q2 : g y < j
    · simp only [if_pos q, if_pos q2]; exact b3
    · simp only [if_pos q, if_neg q2]; omega
    · simp only [if_neg q, if_pos q2]; omega
    · simp only [if_neg q, if_neg q2]; omega)
  omega
theorem vOrd.inj {n o : Nat} (h : vOrd n o) {e e' : Nat} (he : e < n) (he' : e' < n) (hq : pAt o e = pAt o e') : e = e' := by
  rcases Nat.lt_trichotomy e e' with q | q | q
  · exact absurd hq (onto_inj h.on.1 e e' q he')
  · exact q
  · exact absurd hq.symm (onto_inj h.on.1 e' e q he)
theorem vOrd.of {n o : Nat} (h1 : o < 2 ^ (3 * n)) (h2 : ∀ e, e < n → pAt o e < n) (h3 : ∀ e e', e < e' → e' < n → pAt o e ≠ pAt o e') : vOrd n o := by
  refine ⟨h1, ?_⟩
  apply Nat.eq_of_testBit_eq
  intro i
  rw [Nat.testBit_two_pow_sub_one]
  by_cases hi : i < n
  · obtain ⟨e, he, hf⟩ := fb_onto h2 h3 hi
    rw [(msk_bit o i n).mpr ⟨e, he, hf⟩]; simp [hi]
  · have : ¬ (msk o n).testBit i = true := fun z => by
      obtain ⟨e, he, hf⟩ := (msk_bit o i n).mp z
      have := h2 e he
      omega
    simp [hi]; simpa using this
theorem pAt_add {x p t : Nat} (hx : x < 2 ^ (3 * t)) (hp : p < 8) : (∀ e, e < t → pAt (x + p * 2 ^ (3 * t)) e = pAt x e) ∧ pAt (x + p * 2 ^ (3 * t)) t = p := by
  refine ⟨fun e he => ?_, ?_⟩
  · unfold pAt
    have h1 : p * 2 ^ (3 * t) = (p * 2 ^ (3 * (t - e - 1)) * 8) * 2 ^ (3 * e) := by
      rw [Nat.mul_assoc, Nat.mul_assoc]
      congr 1
      rw [show (8 : Nat) = 2 ^ 3 from rfl, ← Nat.pow_add, ← Nat.pow_add]
      congr 1
      omega
    rw [h1, Nat.add_mul_div_right _ _ (Nat.two_pow_pos _), Nat.add_mul_mod_self_right]
  · unfold pAt
    rw [Nat.add_mul_div_right _ _ (Nat.two_pow_pos _), Nat.div_eq_of_lt hx, Nat.zero_add, Nat.mod_eq_of_lt hp]
theorem pAt_ext {a b : Nat} : ∀ {n : Nat}, (∀ e, e < n → pAt a e = pAt b e) → a % 2 ^ (3 * n) = b % 2 ^ (3 * n)
  | 0, _ => by simp [Nat.mod_one]
  | n + 1, h => by
    have ih := pAt_ext (a := a) (b := b) (n := n) (fun e he => h e (by omega))
    have h1 := h n (by omega)
    unfold pAt at h1
    rw [show 3 * (n + 1) = 3 * n + 3 by omega, Nat.pow_add, Nat.mod_mul, Nat.mod_mul, ih, h1]
theorem vOrd.ext {n a b : Nat} (ha : vOrd n a) (hb : vOrd n b) (h : ∀ e, e < n → pAt a e = pAt b e) : a = b := by
  have := pAt_ext h
  rwa [Nat.mod_eq_of_lt ha.1, Nat.mod_eq_of_lt hb.1] at this
/-- the points of a are lower, from the first on -/
def lex (n a b : Nat) : Prop := ∃ k, k < n ∧ (∀ j, j < k → pAt a j = pAt b j) ∧ pAt a k < pAt b k
theorem lex_tri {n a b : Nat} (ha : vOrd n a) (hb : vOrd n b) : a = b ∨ lex n a b ∨ lex n b a := by
  by_cases h : ∃ e, e < n ∧ pAt a e ≠ pAt b e
  · obtain ⟨k, ⟨h1, h2⟩, h3⟩ := pk_least _ h
    have h4 : ∀ j, j < k → pAt a j = pAt b j := fun j hj => Classical.byContradiction (fun z => h3 j hj ⟨by omega, z⟩)
    rcases Nat.lt_or_gt_of_ne h2 with q | q
    · exact Or.inr (Or.inl ⟨k, h1, h4, q⟩)
    · exact Or.inr (Or.inr ⟨k, h1, fun j hj => (h4 j hj).symm, q⟩)
  · exact Or.inl (ha.ext hb (fun e he => Classical.byContradiction (fun z => h ⟨e, he, z⟩)))
theorem lex_asym {n a b : Nat} (h : lex n a b) : ¬ lex n b a := by
  rintro ⟨k', h1', h2', h3'⟩
  obtain ⟨k, h1, h2, h3⟩ := h
  rcases Nat.lt_trichotomy k k' with q | q | q
  · have := h2' k q; omega
  · subst q; omega
  · have := h2 k' q; omega
theorem lex_irr {n a : Nat} : ¬ lex n a a := by rintro ⟨k, h1, h2, h3⟩; omega
/-- the least place of the point p behind those of the first e turns, which are at g -/
def mxP (D : Nat → Nat → Int) (o : Nat) (g : Nat → Int) (p : Nat) : Nat → Int
  | 0 => 0
  | e + 1 => max (mxP D o g p e) (g (pAt o e) + D (pAt o e) p)
theorem mxP_s (D : Nat → Nat → Int) (o : Nat) (g : Nat → Int) (p e : Nat) : mxP D o g p (e + 1) = max (mxP D o g p e) (g (pAt o e) + D (pAt o e) p) := rfl
theorem mxP_cg {D : Nat → Nat → Int} {o : Nat} {g g' : Nat → Int} {p : Nat} : ∀ {t : Nat}, (∀ e, e < t → g (pAt o e) = g' (pAt o e)) → mxP D o g p t = mxP D o g' p t
  | 0, _ => rfl
  | t + 1, h => by rw [mxP_s, mxP_s, mxP_cg (fun e he => h e (by omega)), h t (by omega)]
/-- the places of the points of the first t turns -/
def PLs (D : Nat → Nat → Int) (o : Nat) : Nat → Nat → Int
  | 0 => fun _ => 0
  | t + 1 => fw_u (PLs D o t) (pAt o t) (mxP D o (PLs D o t) (pAt o t) t)
theorem PLs_s (D : Nat → Nat → Int) (o t : Nat) : PLs D o (t + 1) = fw_u (PLs D o t) (pAt o t) (mxP D o (PLs D o t) (pAt o t) t) := rfl
theorem mxP_r {D : Nat → Nat → Int} {n o : Nat} (hD : okR n D 30) {g : Nat → Int} {p : Nat} {B : Int} (hp : p < n) (hB : 0 ≤ B) : ∀ {t : Nat}, (∀ e, e < t → pAt o e < n ∧ 0 ≤ g (pAt o e) ∧ g (pAt o e) ≤ B) → 0 ≤ mxP D o g p t ∧ mxP D o g p t ≤ B + 30
  | 0, _ => by unfold mxP; omega
  | t + 1, h => by
    have ih := mxP_r hD (o := o) (g := g) hp hB (t := t) (fun e he => h e (by omega))
    have h1 := h t (by omega)
    have h2 := hD (pAt o t) p h1.1 hp
    rw [mxP_s]; omega
theorem PLs_r {D : Nat → Nat → Int} {n o : Nat} (hD : okR n D 30) (ho : ∀ e, e < n → pAt o e < n) : ∀ t : Nat, t ≤ n → ∀ i, 0 ≤ PLs D o t i ∧ PLs D o t i ≤ 30 * (t : Int)
  | 0, _, i => by unfold PLs; simp
  | t + 1, ht, i => by
    have ih := PLs_r hD ho t (by omega)
    have h1 := mxP_r hD (o := o) (g := PLs D o t) (p := pAt o t) (B := 30 * (t : Int)) (ho t (by omega)) (by omega) (t := t) (fun e he => ⟨ho e (by omega), ih _⟩)
    have h2 := ih i
    rw [PLs_s]
    by_cases e : i = pAt o t
    · rw [e, fw_u_self]; omega
    · rw [fw_u_ne _ _ e]; omega
/-- a and b: the stretch of the places P, above and below, as some two points have it -/
def isST (n : Nat) (D : Nat → Nat → Int) (P : Nat → Int) (a b : Nat) : Prop := 1 ≤ b ∧ (∀ i j, i < n → j < n → i < j → 0 < D i j → ((P i - P j).natAbs : Int) * b ≤ a * D i j) ∧ ((a = 0 ∧ b = 1) ∨ ∃ i j, i < n ∧ j < n ∧ i < j ∧ 0 < D i j ∧ a = (P i - P j).natAbs ∧ (b : Int) = D i j)
theorem isST.le {n : Nat} {D : Nat → Nat → Int} {P : Nat → Int} {a b a' b' : Nat} (h : isST n D P a b) (h' : isST n D P a' b') : a * b' ≤ a' * b := by
  rcases h.2.2 with ⟨rfl, rfl⟩ | ⟨i, j, hi, hj, hij, hD, ha, hb⟩
  · rw [Nat.zero_mul]; exact Nat.zero_le _
  · have := h'.2.1 i j hi hj hij hD
    rw [← ha, ← hb] at this
    exact_mod_cast this
theorem isST.eq {n : Nat} {D : Nat → Nat → Int} {P : Nat → Int} {a b a' b' : Nat} (h : isST n D P a b) (h' : isST n D P a' b') : a * b' = a' * b := Nat.le_antisymm (h.le h') (h'.le h)
theorem low_eq {a b a' b' : Nat} (hb : 1 ≤ b) (hb' : 1 ≤ b') (h : a * b' = a' * b) : a / Nat.gcd a b = a' / Nat.gcd a' b' ∧ b / Nat.gcd a b = b' / Nat.gcd a' b' := by
  have g0 : 0 < Nat.gcd a b := Nat.gcd_pos_of_pos_right _ hb
  have g0' : 0 < Nat.gcd a' b' := Nat.gcd_pos_of_pos_right _ hb'
  have c1 : Nat.gcd (a / Nat.gcd a b) (b / Nat.gcd a b) = 1 := Nat.gcd_div_gcd_div_gcd_of_pos_right hb
  have c2 : Nat.gcd (a' / Nat.gcd a' b') (b' / Nat.gcd a' b') = 1 := Nat.gcd_div_gcd_div_gcd_of_pos_right hb'
  obtain ⟨x, hx⟩ := Nat.gcd_dvd_left a b
  obtain ⟨y, hy⟩ := Nat.gcd_dvd_right a b
  obtain ⟨x', hx'⟩ := Nat.gcd_dvd_left a' b'
  obtain ⟨y', hy'⟩ := Nat.gcd_dvd_right a' b'
  generalize Nat.gcd a b = g at *
  generalize Nat.gcd a' b' = g' at *
  subst hx; subst hy; subst hx'; subst hy'
  rw [Nat.mul_div_cancel_left _ g0, Nat.mul_div_cancel_left _ g0] at c1
  rw [Nat.mul_div_cancel_left _ g0', Nat.mul_div_cancel_left _ g0'] at c2
  rw [Nat.mul_div_cancel_left _ g0, Nat.mul_div_cancel_left _ g0, Nat.mul_div_cancel_left _ g0', Nat.mul_div_cancel_left _ g0']
  have h2 : x * y' = x' * y := by
    have e1 : g * x * (g' * y') = (g * g') * (x * y') := Nat.mul_mul_mul_comm g x g' y'
    have e2 : g' * x' * (g * y) = (g * g') * (x' * y) := by rw [Nat.mul_mul_mul_comm g' x' g y, Nat.mul_comm g' g]
    rw [e1, e2] at h
    exact Nat.eq_of_mul_eq_mul_left (Nat.mul_pos g0 g0') h
  have cp1 : Nat.Coprime x y := c1
  have cp2 : Nat.Coprime x' y' := c2
  have d1 : x ∣ x' := cp1.dvd_of_dvd_mul_right (by rw [← h2]; exact Nat.dvd_mul_right x y')
  have d2 : x' ∣ x := cp2.dvd_of_dvd_mul_right (by rw [h2]; exact Nat.dvd_mul_right x' y)
  have ex : x = x' := Nat.dvd_antisymm d1 d2
  refine ⟨ex, ?_⟩
  have d3 : y ∣ y' := cp1.symm.dvd_of_dvd_mul_left (by rw [h2]; exact Nat.dvd_mul_left y x')
  have d4 : y' ∣ y := cp2.symm.dvd_of_dvd_mul_left (by rw [← h2]; exact Nat.dvd_mul_left y' x)
  exact Nat.dvd_antisymm d3 d4
end
section
/-! Layout: at the cells 13 (itself), 1, 2 (the table), 14 (places) -/
def LA (w : fw_S) (n : Nat) (D : Nat → Nat → Int) (f : Nat → Int) (A B : Nat) (bo : Int) (ba bb : Nat) : Prop := fw_g w 13 (.inl (2, [.ref 1, .ref 14, .int (iI A), .int (iI B), .int (iI bo), .int (iI ba), .int (iI bb)])) ∧ tb w 1 2 n D ∧ fw_g w 14 (.inr (6, .inl f))
theorem LA.up {w : fw_S} {n : Nat} {D : Nat → Nat → Int} {f : Nat → Int} {A B : Nat} {bo : Int} {ba bb : Nat} (h : LA w n D f A B bo ba bb) (A' B' : Nat) (bo' : Int) (ba' bb' : Nat) : LA (fw_up w 13 (.inl (2, [.ref 1, .ref 14, .int (iI A'), .int (iI B'), .int (iI bo'), .int (iI ba'), .int (iI bb')]))) n D f A' B' bo' ba' bb' := ⟨h.1.up _, h.2.1.kp (kp.up w 13 _) (by decide) (by decide), h.2.2.ne _ (by decide)⟩
theorem p3_le {t : Nat} (h : t ≤ 9) : 2 ^ (3 * t) ≤ 134217728 := Nat.pow_le_pow_right (n := 2) (j := 27) (by decide) (by omega)
theorem c_pointAt {d o t : Nat} {w : fw_S} (ho : o ≤ 2147483647) (ht : t ≤ 9) : fw_K d mX2_pointAt [.int (iI o), .int (iI t)] w (some (.int (iI (pAt o t)))) w := by
  have hshr := iI_shr (z := (o : Int)) (3 * t) (by omega) (by omega)
  have e0 : ((o : Int) / 2 ^ (3 * t)) = ((o / 2 ^ (3 * t) : Nat) : Int) := by norm_cast
  rw [e0] at hshr
  have hle := Nat.div_le_self o (2 ^ (3 * t))
  have hand := iI_andp (m := o / 2 ^ (3 * t)) 3 (by decide) (by omega)
  refine fw_K.of (by decide) (Nat.le_of_ble_eq_true rfl) (by simp [Value.category]) (rfl) ?_
  show fw_R _ _ 0 [some (.int (iI o)), some (.int (iI t))] [] _ _ _
  refine fr_iload_n dX2_pointAt_0 rfl ?_
  refine fr_iconst dX2_pointAt_1 ?_
  refine fr_iload_n dX2_pointAt_2 rfl ?_
  refine fr_imul dX2_pointAt_3 ?_
  rw [show (3 : Int) * (t : Int) = ((3 * t : Nat) : Int) by omega]
  refine fr_ishr (((o / 2 ^ (3 * t) : Nat) : Int)) dX2_pointAt_4 (hshr) ?_
  refine fr_bipush dX2_pointAt_5 (by decide) ?_
  refine fr_iand ((pAt o t : Int)) dX2_pointAt_7 (hand) ?_
  exact fr_iret dX2_pointAt_8 rfl (rfl) (rfl)
theorem c_isOrder {d n : Nat} {D : Nat → Nat → Int} {w : fw_S} {es : List Value} (hd : 1 ≤ d) (h1 : fw_g w 13 (.inl (2, .ref 1 :: es))) (h : tb w 1 2 n D) {order : Int} (hr : -2147483648 ≤ order ∧ order ≤ 2147483647) (ob : Bool) (hob : ob = true ↔ (0 ≤ order ∧ vOrd n order.toNat)) : fw_K d mX2_isOrder [.ref 13, .int (iI order)] w (some (.int (iI (b2 ob)))) w := by
  have h2 := h.1
  have hn := h.2.2
  have hp := p2_le hn.2
  have hp1 : 1 ≤ 2 ^ n := Nat.one_le_two_pow
  have hp3 := p3_le (t := n) (by omega)
  have hno : ¬ (0 ≤ order ∧ vOrd n order.toNat) → ob = false := fun z => by
    cases hb : ob with
    | false => rfl
    | true => exact absurd (hob.mp hb) z
  refine fw_K.of (by decide) (Nat.le_of_ble_eq_true rfl) (by simp [Value.category]) (rfl) ?_
  show fw_R _ _ 0 [some (.ref 13), some (.int (iI order)), none, none] [] _ _ _
  refine fr_iload_n dX2_isOrder_0 rfl ?_
  refine fr_if_lt (tgt := 19) dX2_isOrder_1 (by decide) (by omega) (fun c => ?_) (fun c => ?_)
  · rw [hno (by omega)]
    refine fr_iconst dX2_isOrder_19 ?_
    exact fr_zret dX2_isOrder_20 rfl (by decide) (rfl) (rfl)
  obtain ⟨o, rfl⟩ := Int.eq_ofNat_of_zero_le c
  rw [Int.toNat_natCast] at hob hno
  have hsh3 := iI_shl (m := 1) (3 * n) (by rw [Nat.one_mul]; omega) (by omega)
  rw [Nat.one_mul] at hsh3
  have hshn := iI_shl (m := 1) n (by rw [Nat.one_mul]; omega) (by omega)
  rw [Nat.one_mul] at hshn
  refine fr_iload_n dX2_isOrder_4 rfl ?_
  refine fr_iconst dX2_isOrder_5 ?_
  refine fr_iconst dX2_isOrder_6 ?_
  refine fr_aload_n dX2_isOrder_7 rfl ?_
  refine fr_get fX2_isOrder_8 h1 rfl ?_
  refine fr_get fX2_isOrder_11 h2 rfl ?_
  refine fr_imul dX2_isOrder_14 ?_
  rw [show (3 : Int) * (n : Int) = ((3 * n : Nat) : Int) by omega]
  refine fr_ishl ((2 ^ (3 * n) : Nat) : Int) dX2_isOrder_15 hsh3 ?_
  unfold vOrd at hob hno
  generalize 2 ^ (3 * n) = P3 at hp3 hob hno ⊢
  refine fr_icmp_lt (tgt := 21) dX2_isOrder_16 (by decide) (by omega) (by omega) (fun c2 => ?_) (fun c2 => ?_)
  rotate_left
  · rw [hno (by omega)]
    refine fr_iconst dX2_isOrder_19 ?_
    exact fr_zret dX2_isOrder_20 rfl (by decide) (rfl) (rfl)
  refine fr_iconst dX2_isOrder_21 ?_
  refine fr_istore_n dX2_isOrder_22 rfl (by decide) rfl rfl ?_
  dsimp only [List.set, Option.toList, List.cons_append, List.nil_append]
  refine fr_iconst dX2_isOrder_23 ?_
  refine fr_istore_n dX2_isOrder_24 rfl (by decide) rfl rfl ?_
  dsimp only [List.set, Option.toList, List.cons_append, List.nil_append]
  refine up_loop (fun t => fw_R mX2_isOrder d 25 [some (.ref 13), some (.int (iI o)), some (.int (iI (msk o t))), some (.int (iI t))] [] w (some (.int (iI (b2 ob)))) w) n ?_ ?_ 0 (Nat.zero_le _)
  · have hm := msk_lt o n
    refine fr_iload_n dX2_isOrder_25 rfl ?_
    refine fr_aload_n dX2_isOrder_26 rfl ?_
    refine fr_get fX2_isOrder_27 h1 rfl ?_
    refine fr_get fX2_isOrder_30 h2 rfl ?_
    refine fr_icmp_ge (tgt := 52) dX2_isOrder_33 (by decide) (by omega) (by omega) (fun c3 => ?_) (fun c3 => ?_)
    · refine fr_iload_n dX2_isOrder_52 rfl ?_
      refine fr_iconst dX2_isOrder_53 ?_
      refine fr_aload_n dX2_isOrder_54 rfl ?_
      refine fr_get fX2_isOrder_55 h1 rfl ?_
      refine fr_get fX2_isOrder_58 h2 rfl ?_
      refine fr_ishl (((2 ^ n : Nat) : Int)) dX2_isOrder_61 (hshn) ?_
      refine fr_iconst dX2_isOrder_62 ?_
      refine fr_isub dX2_isOrder_63 ?_
      generalize 2 ^ n = P at *
      refine fr_icmp_ne (tgt := 71) dX2_isOrder_64 (by decide) (by omega) (by omega) (fun c4 => ?_) (fun c4 => ?_)
      · rw [hno (fun z => c4 (by have := z.2.2; omega))]
        refine fr_iconst dX2_isOrder_71 ?_
        exact fr_zret dX2_isOrder_72 rfl (by decide) (rfl) (rfl)
      · rw [hob.mpr ⟨by omega, by omega, by omega⟩]
        refine fr_iconst dX2_isOrder_67 ?_
        refine fr_goto (tgt := 72) dX2_isOrder_68 (by decide) ?_
        exact fr_zret dX2_isOrder_72 rfl (by decide) (rfl) (rfl)
    · omega
  · intro t ht ih
    have hpa := pAt_lt o t
    have hs := iI_shl (m := 1) (pAt o t) (by rw [Nat.one_mul]; have : 2 ^ pAt o t ≤ 2 ^ 8 := Nat.pow_le_pow_right (by decide) (by omega); omega) (by omega)
    rw [Nat.one_mul] at hs
    rw [msk_s] at ih
    refine fr_iload_n dX2_isOrder_25 rfl ?_
    refine fr_aload_n dX2_isOrder_26 rfl ?_
    refine fr_get fX2_isOrder_27 h1 rfl ?_
    refine fr_get fX2_isOrder_30 h2 rfl ?_
    refine fr_icmp_ge (tgt := 52) dX2_isOrder_33 (by decide) (by omega) (by omega) (fun c3 => ?_) (fun c3 => ?_)
    · omega
    refine fr_iload_n dX2_isOrder_36 rfl ?_
    refine fr_iconst dX2_isOrder_37 ?_
    refine fr_iload_n dX2_isOrder_38 rfl ?_
    refine fr_iload_n dX2_isOrder_39 rfl ?_
    refine fr_callS kX2_isOrder_40 (c_pointAt (d := 0) (by omega) (by omega)) (by omega) rfl rfl rfl ?_
    dsimp only [List.set, Option.toList, List.cons_append, List.nil_append]
    refine fr_ishl (((2 ^ pAt o t : Nat) : Int)) dX2_isOrder_43 (hs) ?_
    refine fr_ior (((msk o t ||| 2 ^ pAt o t : Nat) : Int)) dX2_isOrder_44 (iI_or _ _) ?_
    refine fr_istore_n dX2_isOrder_45 rfl (by decide) rfl rfl ?_
    dsimp only [List.set, Option.toList, List.cons_append, List.nil_append]
    refine fr_iinc dX2_isOrder_46 rfl (by decide) rfl rfl ?_
    dsimp only [List.set, Option.toList, List.cons_append, List.nil_append]
    refine fr_goto (tgt := 25) dX2_isOrder_49 (by decide) ?_
    exact ih
theorem c_leastPlace {d n o t p A B ba bb : Nat} {bo : Int} {D : Nat → Nat → Int} {f : Nat → Int} {w : fw_S} (hd : 2 ≤ d) (h : LA w n D f A B bo ba bb) (hD : okR n D 30) (ho : o < 2 ^ (3 * n)) (hon : ∀ e, e < n → pAt o e < n) (ht : t < n) (hp : p < n) (hf : ∀ e, e < t → 0 ≤ f (pAt o e) ∧ f (pAt o e) ≤ 200) : fw_K d mX2_leastPlace [.ref 13, .int (iI o), .int (iI t), .int (iI p)] w (some (.int (iI (mxP D o f p t)))) w := by
  have h1 := h.1
  have h2 := h.2.1
  have h3 := h2.1
  have h4 := h.2.2
  have hn := h2.2.2
  have hp3 := p3_le (t := n) (by omega)
  refine fw_K.of (by decide) (Nat.le_of_ble_eq_true rfl) (by simp [Value.category]) (rfl) ?_
  show fw_R _ _ 0 [some (.ref 13), some (.int (iI o)), some (.int (iI t)), some (.int (iI p)), none, none, none] [] _ _ _
  refine fr_iconst dX2_leastPlace_0 ?_
  refine fr_istore dX2_leastPlace_1 (by decide) rfl rfl ?_
  dsimp only [List.set, Option.toList, List.cons_append, List.nil_append]
  refine fr_iconst dX2_leastPlace_3 ?_
  refine fr_istore dX2_leastPlace_4 (by decide) rfl rfl ?_
  dsimp only [List.set, Option.toList, List.cons_append, List.nil_append]
  refine up_loop (fun e => fw_R mX2_leastPlace d 6 [some (.ref 13), some (.int (iI o)), some (.int (iI t)), some (.int (iI p)), some (.int (iI (mxP D o f p e))), some (.int (iI e)), none] [] w (some (.int (iI (mxP D o f p t)))) w) t ?_ ?_ 0 (Nat.zero_le _)
  · refine fr_iload dX2_leastPlace_6 rfl ?_
    refine fr_iload_n dX2_leastPlace_8 rfl ?_
    refine fr_icmp_ge (tgt := 63) dX2_leastPlace_9 (by decide) (by omega) (by omega) (fun c => ?_) (fun c => ?_)
    · refine fr_iload dX2_leastPlace_63 rfl ?_
      exact fr_iret dX2_leastPlace_65 rfl (rfl) (rfl)
    · omega
  · intro e he ih
    have hpe := hon e (by omega)
    have hfe := hf e he
    have hdr := hD (pAt o e) p hpe hp
    have hmr := mxP_r hD (o := o) (g := f) (B := 200) hp (by omega) (t := e) (fun e' he' => ⟨hon e' (by omega), hf e' (by omega)⟩)
    have hhp := c_hasPoint (d := 0) h2 (i := (pAt o e : Int)) (by omega)
    rw [show decide (0 ≤ (pAt o e : Int) ∧ (pAt o e : Int) < (n : Int)) = true by simp only [decide_eq_true_eq]; omega] at hhp
    rw [mxP_s] at ih
    refine fr_iload dX2_leastPlace_6 rfl ?_
    refine fr_iload_n dX2_leastPlace_8 rfl ?_
    refine fr_icmp_ge (tgt := 63) dX2_leastPlace_9 (by decide) (by omega) (by omega) (fun c => ?_) (fun c => ?_)
    · omega
    refine fr_iload_n dX2_leastPlace_12 rfl ?_
    refine fr_iload dX2_leastPlace_13 rfl ?_
    refine fr_callS kX2_leastPlace_15 (c_pointAt (d := 0) (by omega) (by omega)) (by omega) rfl rfl rfl ?_
    dsimp only [List.set, Option.toList, List.cons_append, List.nil_append]
    refine fr_istore dX2_leastPlace_18 (by decide) rfl rfl ?_
    dsimp only [List.set, Option.toList, List.cons_append, List.nil_append]
    refine fr_aload_n dX2_leastPlace_20 rfl ?_
    refine fr_get fX2_leastPlace_21 h1 rfl ?_
    refine fr_iload dX2_leastPlace_24 rfl ?_
    refine fr_callV kX2_leastPlace_26 (hhp) (by omega) h3 rfl rfl rfl ?_
    dsimp only [List.set, Option.toList, List.cons_append, List.nil_append]
    refine fr_if_eq (tgt := 57) dX2_leastPlace_29 (by decide) (by decide) (fun c2 => ?_) (fun c2 => ?_)
    · exact absurd c2 (by decide)
    refine fr_iload dX2_leastPlace_32 rfl ?_
    refine fr_aload_n dX2_leastPlace_34 rfl ?_
    refine fr_get fX2_leastPlace_35 h1 rfl ?_
    refine fr_iload dX2_leastPlace_38 rfl ?_
    refine fr_iald ((pAt o e)) dX2_leastPlace_40 h4 (by omega) (by omega) (by decide) ?_
    refine fr_aload_n dX2_leastPlace_41 rfl ?_
    refine fr_get fX2_leastPlace_42 h1 rfl ?_
    refine fr_iload dX2_leastPlace_45 rfl ?_
    refine fr_iload_n dX2_leastPlace_47 rfl ?_
    refine fr_callV kX2_leastPlace_48 (c_between (d := 0) h2 hpe hp) (by omega) h3 rfl rfl rfl ?_
    dsimp only [List.set, Option.toList, List.cons_append, List.nil_append]
    refine fr_iadd dX2_leastPlace_51 ?_
    refine fr_max kX2_leastPlace_52 (by omega) (by omega) rfl (by omega) ?_
    refine fr_istore dX2_leastPlace_55 (by decide) rfl rfl ?_
    dsimp only [List.set, Option.toList, List.cons_append, List.nil_append]
    refine fr_iinc dX2_leastPlace_57 rfl (by decide) rfl rfl ?_
    dsimp only [List.set, Option.toList, List.cons_append, List.nil_append]
    refine fr_goto (tgt := 6) dX2_leastPlace_60 (by decide) ?_
    exact ih.wk (by simp [fw_le])
theorem cross {p b a d' e q : Int} (hb : 0 < b) (he : 0 ≤ e) (hd : 0 ≤ d') (h1 : p * b ≤ a * d') (h2 : a * e ≤ q * b) : p * e ≤ q * d' := by
  have h3 : p * e * b ≤ q * d' * b := by
    calc p * e * b = (p * b) * e := by rw [Int.mul_right_comm]
      _ ≤ (a * d') * e := Int.mul_le_mul_of_nonneg_right h1 he
      _ = (a * e) * d' := by rw [Int.mul_right_comm]
      _ ≤ (q * b) * d' := Int.mul_le_mul_of_nonneg_right h2 hd
      _ = q * d' * b := by rw [Int.mul_right_comm]
  exact Int.le_of_mul_le_mul_right h3 hb
/-- as isST, of the pairs gone through -/
def stI (n : Nat) (D : Nat → Nat → Int) (P : Nat → Int) (Q : Nat → Nat → Prop) (a b : Nat) : Prop := 1 ≤ b ∧ a ≤ 200 ∧ b ≤ 30 ∧ (∀ i j, i < n → j < n → i < j → Q i j → 0 < D i j → ((P i - P j).natAbs : Int) * b ≤ a * D i j) ∧ ((a = 0 ∧ b = 1) ∨ ∃ i j, i < n ∧ j < n ∧ i < j ∧ 0 < D i j ∧ a = (P i - P j).natAbs ∧ (b : Int) = D i j)
theorem stI.mono {n : Nat} {D : Nat → Nat → Int} {P : Nat → Int} {Q Q' : Nat → Nat → Prop} {a b : Nat} (h : stI n D P Q a b) (hQ : ∀ i j, i < n → j < n → i < j → Q' i j → Q i j) : stI n D P Q' a b := ⟨h.1, h.2.1, h.2.2.1, fun i j hi hj hij q => h.2.2.2.1 i j hi hj hij (hQ i j hi hj hij q), h.2.2.2.2⟩
theorem stI.add {n : Nat} {D : Nat → Nat → Int} {P : Nat → Int} {Q Q' : Nat → Nat → Prop} {a b i j : Nat} (h : stI n D P Q a b) (hD : okR n D 30) (hP : ∀ k, k < n → 0 ≤ P k ∧ P k ≤ 200) (hi : i < n) (hj : j < n) (hij : i < j) (hQ : ∀ i' j', Q' i' j' → Q i' j' ∨ (i' = i ∧ j' = j)) :
    (0 < D i j ∧ (a : Int) * D i j < ((P i - P j).natAbs : Int) * b → stI n D P Q' (P i - P j).natAbs (D i j).toNat ∧ ((D i j).toNat : Int) = D i j) ∧ (¬ (0 < D i j ∧ (a : Int) * D i j < ((P i - P j).natAbs : Int) * b) → stI n D P Q' a b) := by
  have d1 := hD i j hi hj
  have p1 := hP i hi
  have p2 := hP j hj
  have hb : (0 : Int) < b := by have := h.1; omega
  refine ⟨fun z => ?_, fun z => ?_⟩
  · have ed : ((D i j).toNat : Int) = D i j := by omega
    refine ⟨⟨by omega, by omega, by omega, fun i' j' hi' hj' hij' q hd' => ?_, Or.inr ⟨i, j, hi, hj, hij, z.1, rfl, ed⟩⟩, ed⟩
    rw [ed]
    rcases hQ i' j' q with q1 | ⟨rfl, rfl⟩
    · exact cross hb (by omega) (by omega) (h.2.2.2.1 i' j' hi' hj' hij' q1 hd') (Int.le_of_lt z.2)
    · exact Int.le_refl _
  · refine ⟨h.1, h.2.1, h.2.2.1, fun i' j' hi' hj' hij' q hd' => ?_, h.2.2.2.2⟩
    rcases hQ i' j' q with q1 | ⟨rfl, rfl⟩
    · exact h.2.2.2.1 i' j' hi' hj' hij' q1 hd'
    · exact Int.not_lt.mp (fun y => z ⟨hd', y⟩)
theorem c_measureStretch {d n A B ba bb : Nat} {bo : Int} {D : Nat → Nat → Int} {f : Nat → Int} {w : fw_S} (hd : 1 ≤ d) (h : LA w n D f A B bo ba bb) (hD : okR n D 30) (hf : ∀ k, k < n → 0 ≤ f k ∧ f k ≤ 200) : ∃ (w' : fw_S) (A' B' : Nat), fw_K d mX2_measureStretch [.ref 13] w none w' ∧ LA w' n D f A' B' bo ba bb ∧ stI n D f (fun _ _ => True) A' B' ∧ kp w w' (fun k => k = 13) := by
  have hn := h.2.1.2.2
  have outer := lpE (M := mX2_measureStretch) (d := d) (pcH := 12) n (fun i _ => [some (.ref 13), some (.int (iI i)), none, none, none]) (fun i (_ : Unit) v => (∃ A' B', LA v n D f A' B' bo ba bb ∧ stI n D f (fun i' _ => i' < i) A' B') ∧ kp w v (fun k => k = 13)) (by
    intro i _ v hi ⟨⟨A', B', g1, g2⟩, g3⟩
    have inner := lpE (M := mX2_measureStretch) (d := d) (pcH := 27) n (fun j _ => [some (.ref 13), some (.int (iI i)), some (.int (iI j)), none, none]) (fun j (_ : Unit) v => i < j ∧ (∃ A' B', LA v n D f A' B' bo ba bb ∧ stI n D f (fun i' j' => i' < i ∨ i' = i ∧ j' < j) A' B') ∧ kp w v (fun k => k = 13)) (by
      intro j _ v hj ⟨hij, ⟨A', B', g1, g2⟩, g3⟩
      have g11 := g1.1
      have g12 := g1.2.1
      have g13 := g12.1
      have g14 := g1.2.2
      have d1 := hD i j hi hj
      have p1 := hf i hi
      have p2 := hf j hj
      have b1 := g2.1
      have b2' := g2.2.1
      have b3 := g2.2.2.1
      have hadd := g2.add (Q' := fun i' j' => i' < i ∨ i' = i ∧ j' < j + 1) hD hf hi hj hij (fun i' j' q => by omega)
      have m1 := mul_r (x := (((f i - f j).natAbs : Nat) : Int)) (y := (B' : Int)) (c := 200) (e := 30) (by omega) (by omega) (by omega)
      have m2 := mul_r (x := (A' : Int)) (y := D i j) (c := 200) (e := 30) (by omega) (by omega) (by omega)
      by_cases hc : 0 < D i j ∧ (A' : Int) * D i j < ((f i - f j).natAbs : Int) * B'
      · obtain ⟨hst, ed⟩ := hadd.1 hc
        have u1 := g1.up (f i - f j).natAbs B' bo ba bb
        have u2 := u1.up (f i - f j).natAbs (D i j).toNat bo ba bb
        rw [ed] at u2
        have u11 := u1.1
        refine ⟨(), _, ⟨by omega, ⟨_, _, u1.up (f i - f j).natAbs (D i j).toNat bo ba bb, hst⟩, (g3.trans (kp.up _ _ _)).trans (kp.up _ _ _)⟩, ?_⟩
        intro r w' kk
        rw [ed] at kk
        refine fr_iload_n dX2_measureStretch_27 rfl ?_
        refine fr_aload_n dX2_measureStretch_28 rfl ?_
        refine fr_get fX2_measureStretch_29 g11 rfl ?_
        refine fr_get fX2_measureStretch_32 g13 rfl ?_
        refine fr_icmp_ge (tgt := 103) dX2_measureStretch_35 (by decide) (by omega) (by omega) (fun c => ?_) (fun c => ?_)
        · omega
        refine fr_aload_n dX2_measureStretch_38 rfl ?_
        refine fr_get fX2_measureStretch_39 g11 rfl ?_
        refine fr_iload_n dX2_measureStretch_42 rfl ?_
        refine fr_iload_n dX2_measureStretch_43 rfl ?_
        refine fr_callV kX2_measureStretch_44 (c_between (d := 0) g12 hi hj) (by omega) g13 rfl rfl rfl ?_
        dsimp only [List.set, Option.toList, List.cons_append, List.nil_append]
        refine fr_istore_n dX2_measureStretch_47 rfl (by decide) rfl rfl ?_
        dsimp only [List.set, Option.toList, List.cons_append, List.nil_append]
        refine fr_aload_n dX2_measureStretch_48 rfl ?_
        refine fr_get fX2_measureStretch_49 g11 rfl ?_
        refine fr_iload_n dX2_measureStretch_52 rfl ?_
        refine fr_iald (i) dX2_measureStretch_53 g14 (by omega) (by omega) (by decide) ?_
        refine fr_aload_n dX2_measureStretch_54 rfl ?_
        refine fr_get fX2_measureStretch_55 g11 rfl ?_
        refine fr_iload_n dX2_measureStretch_58 rfl ?_
        refine fr_iald (j) dX2_measureStretch_59 g14 (by omega) (by omega) (by decide) ?_
        refine fr_isub dX2_measureStretch_60 ?_
        refine fr_abs kX2_measureStretch_61 (by omega) rfl (by omega) ?_
        refine fr_istore dX2_measureStretch_64 (by decide) rfl rfl ?_
        dsimp only [List.set, Option.toList, List.cons_append, List.nil_append]
        refine fr_iload_n dX2_measureStretch_66 rfl ?_
        refine fr_if_le (tgt := 97) dX2_measureStretch_67 (by decide) (by omega) (fun c => ?_) (fun c => ?_)
        · omega
        refine fr_iload dX2_measureStretch_70 rfl ?_
        refine fr_aload_n dX2_measureStretch_72 rfl ?_
        refine fr_get fX2_measureStretch_73 g11 rfl ?_
        refine fr_imul dX2_measureStretch_76 ?_
        refine fr_aload_n dX2_measureStretch_77 rfl ?_
        refine fr_get fX2_measureStretch_78 g11 rfl ?_
        refine fr_iload_n dX2_measureStretch_81 rfl ?_
        refine fr_imul dX2_measureStretch_82 ?_
        refine fr_icmp_le (tgt := 97) dX2_measureStretch_83 (by decide) (by omega) (by omega) (fun c => ?_) (fun c => ?_)
        · omega
        refine fr_aload_n dX2_measureStretch_86 rfl ?_
        refine fr_iload dX2_measureStretch_87 rfl ?_
        refine fr_put fX2_measureStretch_89 pfX2_2 g11 (by simp) rfl ?_
        dsimp only [List.set, Option.toList, List.cons_append, List.nil_append]
        refine fr_aload_n dX2_measureStretch_92 rfl ?_
        refine fr_iload_n dX2_measureStretch_93 rfl ?_
        refine fr_put fX2_measureStretch_94 pfX2_3 u11 (by simp) rfl ?_
        dsimp only [List.set, Option.toList, List.cons_append, List.nil_append]
        refine fr_iinc dX2_measureStretch_97 rfl (by decide) rfl rfl ?_
        dsimp only [List.set, Option.toList, List.cons_append, List.nil_append]
        refine fr_goto (tgt := 27) dX2_measureStretch_100 (by decide) ?_
        exact kk.wk (by simp [fw_le])
      · refine ⟨(), v, ⟨by omega, ⟨A', B', g1, hadd.2 hc⟩, g3⟩, ?_⟩
        intro r w' kk
        have done : fw_R mX2_measureStretch d 97 [some (.ref 13), some (.int (iI i)), some (.int (iI j)), some (.int (iI (D i j))), some (.int (iI (((f i - f j).natAbs : Nat) : Int)))] [] v r w' := by
          refine fr_iinc dX2_measureStretch_97 rfl (by decide) rfl rfl ?_
          dsimp only [List.set, Option.toList, List.cons_append, List.nil_append]
          refine fr_goto (tgt := 27) dX2_measureStretch_100 (by decide) ?_
          exact kk.wk (by simp [fw_le])
        refine fr_iload_n dX2_measureStretch_27 rfl ?_
        refine fr_aload_n dX2_measureStretch_28 rfl ?_
        refine fr_get fX2_measureStretch_29 g11 rfl ?_
        refine fr_get fX2_measureStretch_32 g13 rfl ?_
        refine fr_icmp_ge (tgt := 103) dX2_measureStretch_35 (by decide) (by omega) (by omega) (fun c => ?_) (fun c => ?_)
        · omega
        refine fr_aload_n dX2_measureStretch_38 rfl ?_
        refine fr_get fX2_measureStretch_39 g11 rfl ?_
        refine fr_iload_n dX2_measureStretch_42 rfl ?_
        refine fr_iload_n dX2_measureStretch_43 rfl ?_
        refine fr_callV kX2_measureStretch_44 (c_between (d := 0) g12 hi hj) (by omega) g13 rfl rfl rfl ?_
        dsimp only [List.set, Option.toList, List.cons_append, List.nil_append]
        refine fr_istore_n dX2_measureStretch_47 rfl (by decide) rfl rfl ?_
        dsimp only [List.set, Option.toList, List.cons_append, List.nil_append]
        refine fr_aload_n dX2_measureStretch_48 rfl ?_
        refine fr_get fX2_measureStretch_49 g11 rfl ?_
        refine fr_iload_n dX2_measureStretch_52 rfl ?_
        refine fr_iald (i) dX2_measureStretch_53 g14 (by omega) (by omega) (by decide) ?_
        refine fr_aload_n dX2_measureStretch_54 rfl ?_
        refine fr_get fX2_measureStretch_55 g11 rfl ?_
        refine fr_iload_n dX2_measureStretch_58 rfl ?_
        refine fr_iald (j) dX2_measureStretch_59 g14 (by omega) (by omega) (by decide) ?_
        refine fr_isub dX2_measureStretch_60 ?_
        refine fr_abs kX2_measureStretch_61 (by omega) rfl (by omega) ?_
        refine fr_istore dX2_measureStretch_64 (by decide) rfl rfl ?_
        dsimp only [List.set, Option.toList, List.cons_append, List.nil_append]
        refine fr_iload_n dX2_measureStretch_66 rfl ?_
        refine fr_if_le (tgt := 97) dX2_measureStretch_67 (by decide) (by omega) (fun c => ?_) (fun c => ?_)
        · exact done
        refine fr_iload dX2_measureStretch_70 rfl ?_
        refine fr_aload_n dX2_measureStretch_72 rfl ?_
        refine fr_get fX2_measureStretch_73 g11 rfl ?_
        refine fr_imul dX2_measureStretch_76 ?_
        refine fr_aload_n dX2_measureStretch_77 rfl ?_
        refine fr_get fX2_measureStretch_78 g11 rfl ?_
        refine fr_iload_n dX2_measureStretch_81 rfl ?_
        refine fr_imul dX2_measureStretch_82 ?_
        refine fr_icmp_le (tgt := 97) dX2_measureStretch_83 (by decide) (by omega) (by omega) (fun c2 => ?_) (fun c2 => ?_)
        · exact done
        · exact absurd ⟨c, c2⟩ hc)
    obtain ⟨_, wE, ⟨-, ⟨A2, B2, e1, e2⟩, e3⟩, hr⟩ := inner (i + 1) () v (by omega) ⟨by omega, ⟨A', B', g1, g2.mono (fun i' j' _ _ hij q => by omega)⟩, g3⟩
    have g11 := g1.1
    have g13 := g1.2.1.1
    have e11 := e1.1
    have e13 := e1.2.1.1
    refine ⟨(), wE, ⟨⟨A2, B2, e1, e2.mono (fun i' j' _ hj' hij q => by omega)⟩, e3⟩, ?_⟩
    intro r w' kk
    refine fr_iload_n dX2_measureStretch_12 rfl ?_
    refine fr_aload_n dX2_measureStretch_13 rfl ?_
    refine fr_get fX2_measureStretch_14 g11 rfl ?_
    refine fr_get fX2_measureStretch_17 g13 rfl ?_
    refine fr_icmp_ge (tgt := 109) dX2_measureStretch_20 (by decide) (by omega) (by omega) (fun c => ?_) (fun c => ?_)
    · omega
    refine fr_iload_n dX2_measureStretch_23 rfl ?_
    refine fr_iconst dX2_measureStretch_24 ?_
    refine fr_iadd dX2_measureStretch_25 ?_
    refine fr_istore_n dX2_measureStretch_26 rfl (by decide) rfl rfl ?_
    dsimp only [List.set, Option.toList, List.cons_append, List.nil_append]
    refine hr r w' ?_
    refine fr_iload_n dX2_measureStretch_27 rfl ?_
    refine fr_aload_n dX2_measureStretch_28 rfl ?_
    refine fr_get fX2_measureStretch_29 e11 rfl ?_
    refine fr_get fX2_measureStretch_32 e13 rfl ?_
    refine fr_icmp_ge (tgt := 103) dX2_measureStretch_35 (by decide) (by omega) (by omega) (fun c => ?_) (fun c => ?_)
    · refine fr_iinc dX2_measureStretch_103 rfl (by decide) rfl rfl ?_
      dsimp only [List.set, Option.toList, List.cons_append, List.nil_append]
      refine fr_goto (tgt := 12) dX2_measureStretch_106 (by decide) ?_
      exact kk.wk (by simp [fw_le])
    · omega)
  have u1 := h.up 0 B bo ba bb
  have u2 := u1.up 0 1 bo ba bb
  obtain ⟨_, wE, ⟨⟨A2, B2, e1, e2⟩, e3⟩, hr⟩ := outer 0 () _ (by omega) ⟨⟨0, 1, u2, by omega, by omega, by omega, fun i j _ _ _ q => absurd q (Nat.not_lt_zero i), Or.inl ⟨rfl, rfl⟩⟩, (kp.up _ _ _).trans (kp.up _ _ _)⟩
  refine ⟨wE, A2, B2, ?_, e1, e2.mono (fun i j hi _ _ _ => hi), e3⟩
  have h1 := h.1
  have u11 := u1.1
  have e11 := e1.1
  have e13 := e1.2.1.1
  refine fw_K.of (by decide) (Nat.le_of_ble_eq_true rfl) (by simp [Value.category]) (e3.1) ?_
  show fw_R _ _ 0 [some (.ref 13), none, none, none, none] [] _ _ _
  refine fr_aload_n dX2_measureStretch_0 rfl ?_
  refine fr_iconst dX2_measureStretch_1 ?_
  refine fr_put fX2_measureStretch_2 pfX2_2 h1 (by simp) rfl ?_
  dsimp only [List.set, Option.toList, List.cons_append, List.nil_append]
  refine fr_aload_n dX2_measureStretch_5 rfl ?_
  refine fr_iconst dX2_measureStretch_6 ?_
  refine fr_put fX2_measureStretch_7 pfX2_3 u11 (by simp) rfl ?_
  dsimp only [List.set, Option.toList, List.cons_append, List.nil_append]
  refine fr_iconst dX2_measureStretch_10 ?_
  refine fr_istore_n dX2_measureStretch_11 rfl (by decide) rfl rfl ?_
  dsimp only [List.set, Option.toList, List.cons_append, List.nil_append]
  refine hr _ _ ?_
  refine fr_iload_n dX2_measureStretch_12 rfl ?_
  refine fr_aload_n dX2_measureStretch_13 rfl ?_
  refine fr_get fX2_measureStretch_14 e11 rfl ?_
  refine fr_get fX2_measureStretch_17 e13 rfl ?_
  refine fr_icmp_ge (tgt := 109) dX2_measureStretch_20 (by decide) (by omega) (by omega) (fun c => ?_) (fun c => ?_)
  · exact fr_vret dX2_measureStretch_109 rfl rfl (rfl)
  · omega
theorem stI.is {n : Nat} {D : Nat → Nat → Int} {P : Nat → Int} {a b : Nat} (h : stI n D P (fun _ _ => True) a b) : isST n D P a b := ⟨h.1, fun i j hi hj hij hd => h.2.2.2.1 i j hi hj hij trivial hd, h.2.2.2.2⟩
theorem stI.cg {n : Nat} {D : Nat → Nat → Int} {P P' : Nat → Int} {Q : Nat → Nat → Prop} {a b : Nat} (h : stI n D P Q a b) (hP : ∀ i, i < n → P i = P' i) : stI n D P' Q a b := by
  refine ⟨h.1, h.2.1, h.2.2.1, fun i j hi hj hij q hd => ?_, ?_⟩
  · rw [← hP i hi, ← hP j hj]; exact h.2.2.2.1 i j hi hj hij q hd
  · rcases h.2.2.2.2 with q | ⟨i, j, hi, hj, hij, q1, q2, q3⟩
    · exact Or.inl q
    · exact Or.inr ⟨i, j, hi, hj, hij, q1, by rw [← hP i hi, ← hP j hj]; exact q2, q3⟩
theorem c_lay {d n o A B ba bb : Nat} {bo : Int} {D : Nat → Nat → Int} {f : Nat → Int} {w : fw_S} (hd : 3 ≤ d) (h : LA w n D f A B bo ba bb) (hD : okR n D 30) (ho : vOrd n o) : ∃ (w' : fw_S) (f' : Nat → Int) (A' B' : Nat), fw_K d mX2_lay [.ref 13, .int (iI o)] w none w' ∧ LA w' n D f' A' B' bo ba bb ∧ (∀ i, i < n → f' i = PLs D o n i) ∧ stI n D (PLs D o n) (fun _ _ => True) A' B' ∧ kp w w' (fun k => k = 13 ∨ k = 14) := by
  have hn := h.2.1.2.2
  have hp3 := p3_le (t := n) (by omega)
  have ho1 := ho.1
  have hon := ho.on.2
  have hPr := PLs_r hD hon
  have lp := lpE (M := mX2_lay) (d := d) (pcH := 2) n (fun t _ => [some (.ref 13), some (.int (iI o)), some (.int (iI t)), none]) (fun t (_ : Unit) v => (∃ g, LA v n D g A B bo ba bb ∧ ∀ e, e < t → g (pAt o e) = PLs D o t (pAt o e)) ∧ kp w v (fun k => k = 14)) (by
    intro t _ v ht ⟨⟨g, g1, g2⟩, g3⟩
    have hpt := hon t ht
    have g11 := g1.1
    have g12 := g1.2.1
    have g13 := g12.1
    have g14 := g1.2.2
    have hpr := hPr t (by omega)
    have hleast := c_leastPlace (d := d - 1) (o := o) (t := t) (p := pAt o t) (by omega) g1 hD ho1 hon ht hpt (fun e he => by rw [g2 e he]; have := hpr (pAt o e); omega)
    rw [mxP_cg (fun e he => g2 e he)] at hleast
    have hhp := c_hasPoint (d := 0) g12 (i := (pAt o t : Int)) (by omega)
    rw [show decide (0 ≤ (pAt o t : Int) ∧ (pAt o t : Int) < (n : Int)) = true by simp only [decide_eq_true_eq]; omega] at hhp
    refine ⟨(), fw_up v 14 (.inr (6, .inl (fw_u g (pAt o t) (mxP D o (PLs D o t) (pAt o t) t)))), ⟨⟨_, ⟨g11.ne _ (by decide), g12.kp (kp.up v 14 _) (by decide) (by decide), g14.up _⟩, fun e he => ?_⟩, g3.trans (kp.up _ _ _)⟩, ?_⟩
    · rw [PLs_s]
      by_cases q : pAt o e = pAt o t
      · rw [q, fw_u_self, fw_u_self]
      · rw [fw_u_ne _ _ q, fw_u_ne _ _ q]
        have : e ≠ t := fun z => q (by rw [z])
        exact g2 e (by omega)
    · intro r w' kk
      refine fr_iload_n dX2_lay_2 rfl ?_
      refine fr_aload_n dX2_lay_3 rfl ?_
      refine fr_get fX2_lay_4 g11 rfl ?_
      refine fr_get fX2_lay_7 g13 rfl ?_
      refine fr_icmp_ge (tgt := 49) dX2_lay_10 (by decide) (by omega) (by omega) (fun c => ?_) (fun c => ?_)
      · omega
      refine fr_iload_n dX2_lay_13 rfl ?_
      refine fr_iload_n dX2_lay_14 rfl ?_
      refine fr_callS kX2_lay_15 (c_pointAt (d := 0) (by omega) (by omega)) (by omega) rfl rfl rfl ?_
      dsimp only [List.set, Option.toList, List.cons_append, List.nil_append]
      refine fr_istore_n dX2_lay_18 rfl (by decide) rfl rfl ?_
      dsimp only [List.set, Option.toList, List.cons_append, List.nil_append]
      refine fr_aload_n dX2_lay_19 rfl ?_
      refine fr_get fX2_lay_20 g11 rfl ?_
      refine fr_iload_n dX2_lay_23 rfl ?_
      refine fr_callV kX2_lay_24 (hhp) (by omega) g13 rfl rfl rfl ?_
      dsimp only [List.set, Option.toList, List.cons_append, List.nil_append]
      refine fr_if_eq (tgt := 43) dX2_lay_27 (by decide) (by decide) (fun c => ?_) (fun c => ?_)
      · exact absurd c (by decide)
      refine fr_aload_n dX2_lay_30 rfl ?_
      refine fr_get fX2_lay_31 g11 rfl ?_
      refine fr_iload_n dX2_lay_34 rfl ?_
      refine fr_aload_n dX2_lay_35 rfl ?_
      refine fr_iload_n dX2_lay_36 rfl ?_
      refine fr_iload_n dX2_lay_37 rfl ?_
      refine fr_iload_n dX2_lay_38 rfl ?_
      refine fr_callV kX2_lay_39 (hleast) (by omega) g11 rfl rfl rfl ?_
      dsimp only [List.set, Option.toList, List.cons_append, List.nil_append]
      refine fr_iast ((pAt o t)) dX2_lay_42 g14 (by omega) (by omega) (by decide) ?_
      refine fr_iinc dX2_lay_43 rfl (by decide) rfl rfl ?_
      dsimp only [List.set, Option.toList, List.cons_append, List.nil_append]
      refine fr_goto (tgt := 2) dX2_lay_46 (by decide) ?_
      exact kk.wk (by simp [fw_le]))
  obtain ⟨_, w1, ⟨⟨g, e1, e2⟩, e3⟩, hr⟩ := lp 0 () w (Nat.zero_le _) ⟨⟨f, h, fun e he => absurd he (Nat.not_lt_zero e)⟩, kp.rf⟩
  have hg : ∀ i, i < n → g i = PLs D o n i := fun i hi => by
    obtain ⟨e, he, rfl⟩ := ho.on.1 i hi
    exact e2 e he
  obtain ⟨w2, A', B', k1, k2, k3, k4⟩ := c_measureStretch (d := d - 1) (by omega) e1 hD (fun k hk => by rw [hg k hk]; have := hPr n (Nat.le_refl n) k; omega)
  have kall : kp w w2 (fun k => k = 13 ∨ k = 14) := (e3.mono (fun k hk => Or.inr hk)).trans (k4.mono (fun k hk => Or.inl hk))
  refine ⟨w2, g, A', B', ?_, k2, hg, k3.cg hg, kall⟩
  have e11 := e1.1
  have e13 := e1.2.1.1
  refine fw_K.of (by decide) (Nat.le_of_ble_eq_true rfl) (by simp [Value.category]) (kall.1) ?_
  show fw_R _ _ 0 [some (.ref 13), some (.int (iI o)), none, none] [] _ _ _
  refine fr_iconst dX2_lay_0 ?_
  refine fr_istore_n dX2_lay_1 rfl (by decide) rfl rfl ?_
  dsimp only [List.set, Option.toList, List.cons_append, List.nil_append]
  refine hr _ _ ?_
  refine fr_iload_n dX2_lay_2 rfl ?_
  refine fr_aload_n dX2_lay_3 rfl ?_
  refine fr_get fX2_lay_4 e11 rfl ?_
  refine fr_get fX2_lay_7 e13 rfl ?_
  refine fr_icmp_ge (tgt := 49) dX2_lay_10 (by decide) (by omega) (by omega) (fun c => ?_) (fun c => ?_)
  · refine fr_aload_n dX2_lay_49 rfl ?_
    refine fr_callV kX2_lay_50 (k1) (by omega) e11 rfl rfl rfl ?_
    dsimp only [List.set, Option.toList, List.cons_append, List.nil_append]
    exact fr_vret dX2_lay_53 rfl rfl (rfl)
  · omega
end
section
/-! Layout: stretchPart, keepIfBetter, tryOrders, leastStretched -/
theorem tm_nat (a b : Nat) : (a : Int).tmod (b : Int) = ((a % b : Nat) : Int) := (Int.ofNat_tmod a b).symm
theorem td_nat (a b : Nat) : (a : Int).tdiv (b : Int) = ((a / b : Nat) : Int) := (Int.ofNat_tdiv a b).symm
theorem c_stretchPart {d n A B ba bb : Nat} {bo what : Int} {D : Nat → Nat → Int} {f : Nat → Int} {w : fw_S} (h : LA w n D f A B bo ba bb) (hA : A ≤ 200) (hB : 1 ≤ B ∧ B ≤ 30) (hw : -2147483648 ≤ what ∧ what ≤ 2147483647) : fw_K d mX2_stretchPart [.ref 13, .int (iI what)] w (some (.int (iI (((if what = 1 then A else B) / Nat.gcd A B : Nat) : Int)))) w := by
  have h1 := h.1
  have hg0 : 0 < Nat.gcd A B := Nat.gcd_pos_of_pos_right _ hB.1
  have hgB : Nat.gcd A B ≤ B := Nat.gcd_le_right A hB.1
  obtain ⟨part, hpart⟩ : ∃ p, p = (if what = 1 then A else B) := ⟨_, rfl⟩
  rw [← hpart]
  have hp : part ≤ 200 := by rw [hpart]; split <;> omega
  have loop : ∀ q : Nat, q ≤ B → (∀ k, q < k → k ≤ B → ¬ (A % k = 0 ∧ B % k = 0)) → fw_R mX2_stretchPart d 22 [some (.ref 13), some (.int (iI what)), some (.int (iI part)), some (.int (iI q))] [] w (some (.int (iI ((part / Nat.gcd A B : Nat) : Int)))) w := by
    intro q
    induction q with
    | zero =>
      intro _ hno
      exact absurd ⟨Nat.mod_eq_zero_of_dvd (Nat.gcd_dvd_left A B), Nat.mod_eq_zero_of_dvd (Nat.gcd_dvd_right A B)⟩ (hno _ hg0 hgB)
    | succ q ih =>
      intro hq hno
      have hgq : Nat.gcd A B ≤ q + 1 := by
        rcases Nat.lt_or_ge (q + 1) (Nat.gcd A B) with z | z
        · exact absurd ⟨Nat.mod_eq_zero_of_dvd (Nat.gcd_dvd_left A B), Nat.mod_eq_zero_of_dvd (Nat.gcd_dvd_right A B)⟩ (hno _ z hgB)
        · exact z
      have stay : ¬ (A % (q + 1) = 0 ∧ B % (q + 1) = 0) → fw_R mX2_stretchPart d 49 [some (.ref 13), some (.int (iI what)), some (.int (iI part)), some (.int (iI ((q + 1 : Nat) : Int)))] [] w (some (.int (iI ((part / Nat.gcd A B : Nat) : Int)))) w := by
        intro z
        refine fr_iinc dX2_stretchPart_49 rfl (by decide) rfl rfl ?_
        dsimp only [List.set, Option.toList, List.cons_append, List.nil_append]
        refine fr_goto (tgt := 22) dX2_stretchPart_52 (by decide) ?_
        rw [show ((q + 1 : Nat) : Int) + -1 = (q : Int) by omega]
        exact ih (by omega) (fun k h1 h2 => by
          by_cases e : k = q + 1
          · subst e; exact z
          · exact hno k (by omega) h2)
      have hm1 := Nat.mod_lt A (show 0 < q + 1 by omega)
      have hm2 := Nat.mod_lt B (show 0 < q + 1 by omega)
      refine fr_iload_n dX2_stretchPart_22 rfl ?_
      refine fr_iconst dX2_stretchPart_23 ?_
      refine fr_icmp_le (tgt := 55) dX2_stretchPart_24 (by decide) (by omega) (by omega) (fun c => ?_) (fun c => ?_)
      · have : Nat.gcd A B = 1 := by omega
        rw [this, Nat.div_one]
        refine fr_iload_n dX2_stretchPart_55 rfl ?_
        exact fr_iret dX2_stretchPart_56 rfl (rfl) (rfl)
      · refine fr_aload_n dX2_stretchPart_27 rfl ?_
        refine fr_get fX2_stretchPart_28 h1 rfl ?_
        refine fr_iload_n dX2_stretchPart_31 rfl ?_
        refine fr_irem dX2_stretchPart_32 (by omega) (by omega) (by omega) ?_
        rw [tm_nat]
        refine fr_if_ne (tgt := 49) dX2_stretchPart_33 (by decide) (by omega) (fun c2 => ?_) (fun c2 => ?_)
        · exact stay (fun z => c2 (by rw [z.1]; rfl))
        · refine fr_aload_n dX2_stretchPart_36 rfl ?_
          refine fr_get fX2_stretchPart_37 h1 rfl ?_
          refine fr_iload_n dX2_stretchPart_40 rfl ?_
          refine fr_irem dX2_stretchPart_41 (by omega) (by omega) (by omega) ?_
          rw [tm_nat]
          refine fr_if_ne (tgt := 49) dX2_stretchPart_42 (by decide) (by omega) (fun c3 => ?_) (fun c3 => ?_)
          · exact stay (fun z => c3 (by rw [z.2]; rfl))
          · have e1 : A % (q + 1) = 0 := by omega
            have e2 : B % (q + 1) = 0 := by omega
            have e3 : q + 1 ∣ Nat.gcd A B := Nat.dvd_gcd (Nat.dvd_of_mod_eq_zero e1) (Nat.dvd_of_mod_eq_zero e2)
            have e4 := Nat.le_of_dvd hg0 e3
            refine fr_iload_n dX2_stretchPart_45 rfl ?_
            refine fr_iload_n dX2_stretchPart_46 rfl ?_
            refine fr_idiv dX2_stretchPart_47 (by omega) (by omega) (by omega) ?_
            rw [td_nat, show q + 1 = Nat.gcd A B by omega]
            exact fr_iret dX2_stretchPart_48 rfl (rfl) (rfl)
  have fin : fw_R mX2_stretchPart d 16 [some (.ref 13), some (.int (iI what)), none, none] [.int (iI part)] w (some (.int (iI ((part / Nat.gcd A B : Nat) : Int)))) w := by
    refine fr_istore_n dX2_stretchPart_16 rfl (by decide) rfl rfl ?_
    dsimp only [List.set, Option.toList, List.cons_append, List.nil_append]
    refine fr_aload_n dX2_stretchPart_17 rfl ?_
    refine fr_get fX2_stretchPart_18 h1 rfl ?_
    refine fr_istore_n dX2_stretchPart_21 rfl (by decide) rfl rfl ?_
    dsimp only [List.set, Option.toList, List.cons_append, List.nil_append]
    exact loop B (Nat.le_refl B) (fun k h1 h2 => by omega)
  refine fw_K.of (by decide) (Nat.le_of_ble_eq_true rfl) (by simp [Value.category]) (rfl) ?_
  show fw_R _ _ 0 [some (.ref 13), some (.int (iI what)), none, none] [] _ _ _
  refine fr_iload_n dX2_stretchPart_0 rfl ?_
  refine fr_iconst dX2_stretchPart_1 ?_
  refine fr_icmp_ne (tgt := 12) dX2_stretchPart_2 (by decide) (by omega) (by omega) (fun c => ?_) (fun c => ?_)
  · rw [if_neg c] at hpart
    rw [hpart] at fin ⊢
    refine fr_aload_n dX2_stretchPart_12 rfl ?_
    refine fr_get fX2_stretchPart_13 h1 rfl ?_
    exact fin
  · rw [if_pos c] at hpart
    rw [hpart] at fin ⊢
    refine fr_aload_n dX2_stretchPart_5 rfl ?_
    refine fr_get fX2_stretchPart_6 h1 rfl ?_
    refine fr_goto (tgt := 16) dX2_stretchPart_9 (by decide) ?_
    exact fin
/-- of the orders V gone through: none yet, or bo stretches least, with ba above and bb below; of several the one whose points are lower -/
def BSt (n : Nat) (D : Nat → Nat → Int) (V : Nat → Prop) (bo : Int) (ba bb : Nat) : Prop := (bo = -4 ∧ ∀ o, ¬ V o) ∨ (∃ o : Nat, bo = (o : Int) ∧ V o ∧ isST n D (PLs D o n) ba bb ∧ ba ≤ 200 ∧ bb ≤ 30 ∧ ∀ o', V o' → ∀ a' b', isST n D (PLs D o' n) a' b' → ba * b' < a' * bb ∨ (ba * b' = a' * bb ∧ (o = o' ∨ lex n o o')))
theorem BSt.cg {n : Nat} {D : Nat → Nat → Int} {V V' : Nat → Prop} {bo : Int} {ba bb : Nat} (h : BSt n D V bo ba bb) (hV : ∀ o, V o ↔ V' o) : BSt n D V' bo ba bb := by
  have : V = V' := funext fun o => propext (hV o)
  rw [← this]; exact h
theorem BSt.add {n : Nat} {D : Nat → Nat → Int} {V : Nat → Prop} {bo : Int} {ba bb A B o : Nat} (h : BSt n D V bo ba bb) (hst : stI n D (PLs D o n) (fun _ _ => True) A B) (hlex : ∀ o', V o' → lex n o' o) :
    (bo = -4 ∨ A * bb < ba * B → BSt n D (fun x => V x ∨ x = o) (o : Int) A B) ∧ (¬ (bo = -4 ∨ A * bb < ba * B) → BSt n D (fun x => V x ∨ x = o) bo ba bb) := by
  have hs := hst.is
  have hB := hst.1
  have self : ∀ a' b', isST n D (PLs D o n) a' b' → A * b' = a' * B := fun a' b' h' => hs.eq h'
  refine ⟨fun z => Or.inr ⟨o, rfl, Or.inr rfl, hs, hst.2.1, hst.2.2.1, fun o' ho' a' b' hs' => ?_⟩, fun z => ?_⟩
  · rcases ho' with ho' | rfl
    · rcases h with ⟨h1, h2⟩ | ⟨o1, h1, h2, h3, h4, h5, h6⟩
      · exact absurd ho' (h2 o')
      · rcases z with z | z
        · omega
        · left
          have h7 : ba * b' ≤ a' * bb := by rcases h6 o' ho' a' b' hs' with q | q; exact Nat.le_of_lt q; exact Nat.le_of_eq q.1
          have hbb := h3.1
          have hb' := hs'.1
          have e1 : A * b' * bb < a' * B * bb := by
            calc A * b' * bb = (A * bb) * b' := Nat.mul_right_comm A b' bb
              _ < (ba * B) * b' := Nat.mul_lt_mul_of_pos_right z (by omega)
              _ = (ba * b') * B := Nat.mul_right_comm ba B b'
              _ ≤ (a' * bb) * B := Nat.mul_le_mul_right B h7
              _ = a' * B * bb := Nat.mul_right_comm a' bb B
          exact Nat.lt_of_mul_lt_mul_right e1
    · exact Or.inr ⟨self a' b' hs', Or.inl rfl⟩
  · rcases h with ⟨h1, h2⟩ | ⟨o1, h1, h2, h3, h4, h5, h6⟩
    · exact absurd (Or.inl h1) z
    · refine Or.inr ⟨o1, h1, Or.inl h2, h3, h4, h5, fun o' ho' a' b' hs' => ?_⟩
      rcases ho' with ho' | rfl
      · exact h6 o' ho' a' b' hs'
      · have h7 : ba * B ≤ A * bb := Nat.not_lt.mp (fun y => z (Or.inr y))
        have h8 := self a' b' hs'
        have e1 : ba * b' * B ≤ a' * bb * B := by
          calc ba * b' * B = (ba * B) * b' := Nat.mul_right_comm ba b' B
            _ ≤ (A * bb) * b' := Nat.mul_le_mul_right b' h7
            _ = (A * b') * bb := Nat.mul_right_comm A bb b'
            _ = (a' * B) * bb := by rw [h8]
            _ = a' * bb * B := Nat.mul_right_comm a' B bb
        have e2 : ba * b' ≤ a' * bb := Nat.le_of_mul_le_mul_right e1 hB
        rcases Nat.lt_or_eq_of_le e2 with q | q
        · exact Or.inl q
        · exact Or.inr ⟨q, Or.inr (hlex o1 h2)⟩
theorem nat_mul_r {x y c e : Nat} (hx : x ≤ c) (hy : y ≤ e) : x * y ≤ c * e := Nat.mul_le_mul hx hy
theorem c_keepIfBetter {d n A B ba bb o : Nat} {bo : Int} {D : Nat → Nat → Int} {f : Nat → Int} {w : fw_S} {V : Nat → Prop} (h : LA w n D f A B bo ba bb) (hA : A ≤ 200 ∧ B ≤ 30) (hb : bo = -4 ∨ (0 ≤ bo ∧ bo ≤ 2147483647 ∧ ba ≤ 200 ∧ bb ≤ 30)) : ∃ (w' : fw_S) (bo' : Int) (ba' bb' : Nat), fw_K d mX2_keepIfBetter [.ref 13, .int (iI o)] w none w' ∧ LA w' n D f A B bo' ba' bb' ∧ kp w w' (fun k => k = 13) ∧ ((bo = -4 ∨ A * bb < ba * B) → bo' = (o : Int) ∧ ba' = A ∧ bb' = B) ∧ (¬ (bo = -4 ∨ A * bb < ba * B) → bo' = bo ∧ ba' = ba ∧ bb' = bb) := by
  have h1 := h.1
  by_cases z : bo = -4 ∨ A * bb < ba * B
  · have u1 := h.up A B o ba bb
    have u2 := u1.up A B o A bb
    have u3 := u2.up A B o A B
    refine ⟨_, o, A, B, ?_, u3, ((kp.up _ _ _).trans (kp.up _ _ _)).trans (kp.up _ _ _), fun _ => ⟨rfl, rfl, rfl⟩, fun y => absurd z y⟩
    have u11 := u1.1
    have u21 := u2.1
    refine fw_K.of (by decide) (Nat.le_of_ble_eq_true rfl) (by simp [Value.category]) (rfl) ?_
    show fw_R _ _ 0 [some (.ref 13), some (.int (iI o))] [] _ _ _
    have fin : fw_R mX2_keepIfBetter d 30 [some (.ref 13), some (.int (iI o))] [] w none (fw_up (fw_up (fw_up w 13 (.inl (2, [.ref 1, .ref 14, .int (iI A), .int (iI B), .int (iI o), .int (iI ba), .int (iI bb)]))) 13 (.inl (2, [.ref 1, .ref 14, .int (iI A), .int (iI B), .int (iI o), .int (iI A), .int (iI bb)]))) 13 (.inl (2, [.ref 1, .ref 14, .int (iI A), .int (iI B), .int (iI o), .int (iI A), .int (iI B)]))) := by
      refine fr_aload_n dX2_keepIfBetter_30 rfl ?_
      refine fr_iload_n dX2_keepIfBetter_31 rfl ?_
      refine fr_put fX2_keepIfBetter_32 pfX2_4 h1 (by simp) rfl ?_
      dsimp only [List.set, Option.toList, List.cons_append, List.nil_append]
      refine fr_aload_n dX2_keepIfBetter_35 rfl ?_
      refine fr_aload_n dX2_keepIfBetter_36 rfl ?_
      refine fr_get fX2_keepIfBetter_37 u11 rfl ?_
      refine fr_put fX2_keepIfBetter_40 pfX2_5 u11 (by simp) rfl ?_
      dsimp only [List.set, Option.toList, List.cons_append, List.nil_append]
      refine fr_aload_n dX2_keepIfBetter_43 rfl ?_
      refine fr_aload_n dX2_keepIfBetter_44 rfl ?_
      refine fr_get fX2_keepIfBetter_45 u21 rfl ?_
      refine fr_put fX2_keepIfBetter_48 pfX2_6 u21 (by simp) rfl ?_
      dsimp only [List.set, Option.toList, List.cons_append, List.nil_append]
      exact fr_vret dX2_keepIfBetter_51 rfl rfl (rfl)
    refine fr_aload_n dX2_keepIfBetter_0 rfl ?_
    refine fr_get fX2_keepIfBetter_1 h1 rfl ?_
    refine fr_bipush dX2_keepIfBetter_4 (by decide) ?_
    refine fr_icmp_eq (tgt := 30) dX2_keepIfBetter_6 (by decide) (by omega) (by omega) (fun c => ?_) (fun c => ?_)
    · exact fin
    · rcases hb with hb | hb
      · exact absurd hb c
      have m1 := nat_mul_r (x := A) (y := bb) hA.1 hb.2.2.2
      have m2 := nat_mul_r (x := ba) (y := B) hb.2.2.1 hA.2
      refine fr_aload_n dX2_keepIfBetter_9 rfl ?_
      refine fr_get fX2_keepIfBetter_10 h1 rfl ?_
      refine fr_aload_n dX2_keepIfBetter_13 rfl ?_
      refine fr_get fX2_keepIfBetter_14 h1 rfl ?_
      refine fr_imul dX2_keepIfBetter_17 ?_
      refine fr_aload_n dX2_keepIfBetter_18 rfl ?_
      refine fr_get fX2_keepIfBetter_19 h1 rfl ?_
      refine fr_aload_n dX2_keepIfBetter_22 rfl ?_
      refine fr_get fX2_keepIfBetter_23 h1 rfl ?_
      refine fr_imul dX2_keepIfBetter_26 ?_
      rw [show (A : Int) * (bb : Int) = ((A * bb : Nat) : Int) by rw [Int.natCast_mul], show (ba : Int) * (B : Int) = ((ba * B : Nat) : Int) by rw [Int.natCast_mul]]
      refine fr_icmp_ge (tgt := 51) dX2_keepIfBetter_27 (by decide) (by omega) (by omega) (fun c2 => ?_) (fun c2 => ?_)
      · omega
      · exact fin
  · rcases hb with hb | hb
    · exact absurd (Or.inl hb) z
    have m1 := nat_mul_r (x := A) (y := bb) hA.1 hb.2.2.2
    have m2 := nat_mul_r (x := ba) (y := B) hb.2.2.1 hA.2
    refine ⟨w, bo, ba, bb, ?_, h, kp.rf, fun y => absurd y z, fun _ => ⟨rfl, rfl, rfl⟩⟩
    refine fw_K.of (by decide) (Nat.le_of_ble_eq_true rfl) (by simp [Value.category]) (rfl) ?_
    show fw_R _ _ 0 [some (.ref 13), some (.int (iI o))] [] _ _ _
    refine fr_aload_n dX2_keepIfBetter_0 rfl ?_
    refine fr_get fX2_keepIfBetter_1 h1 rfl ?_
    refine fr_bipush dX2_keepIfBetter_4 (by decide) ?_
    refine fr_icmp_eq (tgt := 30) dX2_keepIfBetter_6 (by decide) (by omega) (by omega) (fun c => ?_) (fun c => ?_)
    · exact absurd (Or.inl c) z
    · refine fr_aload_n dX2_keepIfBetter_9 rfl ?_
      refine fr_get fX2_keepIfBetter_10 h1 rfl ?_
      refine fr_aload_n dX2_keepIfBetter_13 rfl ?_
      refine fr_get fX2_keepIfBetter_14 h1 rfl ?_
      refine fr_imul dX2_keepIfBetter_17 ?_
      refine fr_aload_n dX2_keepIfBetter_18 rfl ?_
      refine fr_get fX2_keepIfBetter_19 h1 rfl ?_
      refine fr_aload_n dX2_keepIfBetter_22 rfl ?_
      refine fr_get fX2_keepIfBetter_23 h1 rfl ?_
      refine fr_imul dX2_keepIfBetter_26 ?_
      rw [show (A : Int) * (bb : Int) = ((A * bb : Nat) : Int) by rw [Int.natCast_mul], show (ba : Int) * (B : Int) = ((ba * B : Nat) : Int) by rw [Int.natCast_mul]]
      refine fr_icmp_ge (tgt := 51) dX2_keepIfBetter_27 (by decide) (by omega) (by omega) (fun c2 => ?_) (fun c2 => ?_)
      · exact fr_vret dX2_keepIfBetter_51 rfl rfl (rfl)
      · omega
def preO (t x o : Nat) : Prop := ∀ e, e < t → pAt o e = pAt x e
theorem BSt.r {n : Nat} {D : Nat → Nat → Int} {V : Nat → Prop} {bo : Int} {ba bb : Nat} (h : BSt n D V bo ba bb) (hV : ∀ o, V o → o ≤ 2147483647) : bo = -4 ∨ (0 ≤ bo ∧ bo ≤ 2147483647 ∧ ba ≤ 200 ∧ bb ≤ 30) := by
  rcases h with ⟨h1, -⟩ | ⟨o, h1, h2, h3, h4, h5, -⟩
  · exact Or.inl h1
  · have := hV o h2
    exact Or.inr ⟨by omega, by omega, h4, h5⟩
theorem or_add {x p t : Nat} (hx : x < 2 ^ (3 * t)) : x ||| p * 2 ^ (3 * t) = x + p * 2 ^ (3 * t) := by
  rw [Nat.or_comm, Nat.mul_comm p, ← Nat.two_pow_add_eq_or_of_lt hx, Nat.add_comm]
theorem c_tryOrders {n : Nat} {D : Nat → Nat → Int} (hD : okR n D 30) : ∀ (r t x : Nat) (V : Nat → Prop) (w : fw_S) (f : Nat → Int) (A B ba bb : Nat) (bo : Int), t + r = n → x < 2 ^ (3 * t) → (∀ e, e < t → pAt x e < n) → (∀ e e', e < e' → e' < t → pAt x e ≠ pAt x e') → (∀ o, V o → vOrd n o) → (∀ o', V o' → ∀ c, vOrd n c → preO t x c → lex n o' c) → LA w n D f A B bo ba bb → BSt n D V bo ba bb →
    ∃ (w' : fw_S) (f' : Nat → Int) (A' B' ba' bb' : Nat) (bo' : Int), fw_K (r + 4) mX2_tryOrders [.ref 13, .int (iI t), .int (iI (msk x t)), .int (iI x)] w none w' ∧ LA w' n D f' A' B' bo' ba' bb' ∧ BSt n D (fun o => V o ∨ (vOrd n o ∧ preO t x o)) bo' ba' bb' ∧ kp w w' (fun k => k = 13 ∨ k = 14) := by
  intro r
  induction r with
  | zero =>
    intro t x V w f A B ba bb bo htn hx hdg hdi hV hlex hLA hB
    have hn := hLA.2.1.2.2
    have e0 : t = n := by omega
    subst e0
    have hp3 := p3_le (t := t) (by omega)
    have hvx : vOrd t x := vOrd.of hx hdg hdi
    obtain ⟨w1, f1, A1, B1, k1, k2, k3, k4, k5⟩ := c_lay (d := 3) (by omega) hLA hD hvx
    obtain ⟨w2, bo2, ba2, bb2, j1, j2, j3, j4, j5⟩ := c_keepIfBetter (d := 0) (o := x) (V := V) k2 ⟨k4.2.1, k4.2.2.1⟩ (hB.r (fun o ho => by have := (hV o ho).1; omega))
    have hadd := hB.add k4 (fun o' ho' => hlex o' ho' x hvx (fun e _ => rfl))
    refine ⟨w2, f1, A1, B1, ba2, bb2, bo2, ?_, j2, ?_, k5.trans (j3.mono (fun k hk => Or.inl hk))⟩
    · have h1 := hLA.1
      have h3 := hLA.2.1.1
      have k21 := k2.1
      refine fw_K.of (by decide) (Nat.le_of_ble_eq_true rfl) (by simp [Value.category]) ((k5.trans (j3.mono (fun k hk => Or.inl hk))).1) ?_
      show fw_R _ _ 0 [some (.ref 13), some (.int (iI t)), some (.int (iI (msk x t))), some (.int (iI x)), none] [] _ _ _
      refine fr_iload_n dX2_tryOrders_0 rfl ?_
      refine fr_aload_n dX2_tryOrders_1 rfl ?_
      refine fr_get fX2_tryOrders_2 h1 rfl ?_
      refine fr_get fX2_tryOrders_5 h3 rfl ?_
      refine fr_icmp_lt (tgt := 22) dX2_tryOrders_8 (by decide) (by omega) (by omega) (fun c => ?_) (fun c => ?_)
      · omega
      · refine fr_aload_n dX2_tryOrders_11 rfl ?_
        refine fr_iload_n dX2_tryOrders_12 rfl ?_
        refine fr_callV kX2_tryOrders_13 (k1) (by omega) h1 rfl rfl rfl ?_
        dsimp only [List.set, Option.toList, List.cons_append, List.nil_append]
        refine fr_aload_n dX2_tryOrders_16 rfl ?_
        refine fr_iload_n dX2_tryOrders_17 rfl ?_
        refine fr_callV kX2_tryOrders_18 (j1) (by omega) k21 rfl rfl rfl ?_
        dsimp only [List.set, Option.toList, List.cons_append, List.nil_append]
        exact fr_vret dX2_tryOrders_21 rfl rfl (rfl)
    · have hV2 : ∀ o, (V o ∨ o = x) ↔ (V o ∨ (vOrd t o ∧ preO t x o)) := fun o => by
        constructor
        · rintro (q | rfl)
          · exact Or.inl q
          · exact Or.inr ⟨hvx, fun e _ => rfl⟩
        · rintro (q | ⟨q1, q2⟩)
          · exact Or.inl q
          · exact Or.inr (q1.ext hvx (fun e he => q2 e he))
      by_cases z : bo = -4 ∨ A1 * bb < ba * B1
      · obtain ⟨rfl, rfl, rfl⟩ := j4 z
        exact (hadd.1 z).cg hV2
      · obtain ⟨rfl, rfl, rfl⟩ := j5 z
        exact (hadd.2 z).cg hV2
  | succ r ih =>
    intro t x V w f A B ba bb bo htn hx hdg hdi hV hlex hLA hB
    have hn := hLA.2.1.2.2
    have hp3 := p3_le (t := t) (by omega)
    have hp5 : 2 ^ (3 * t) ≤ 2 ^ 15 := Nat.pow_le_pow_right (by decide) (by omega)
    have hm := msk_lt x t
    have loop := lpE (M := mX2_tryOrders) (d := r + 5) (pcH := 25) n (fun p _ => [some (.ref 13), some (.int (iI t)), some (.int (iI (msk x t))), some (.int (iI x)), some (.int (iI p))]) (fun p (_ : Unit) v => (∃ (g : Nat → Int) (A' B' ba' bb' : Nat) (bo' : Int), LA v n D g A' B' bo' ba' bb' ∧ BSt n D (fun o => V o ∨ (vOrd n o ∧ preO t x o ∧ pAt o t < p)) bo' ba' bb') ∧ kp w v (fun k => k = 13 ∨ k = 14)) (by
      intro p _ v hp ⟨⟨g, A', B', ba', bb', bo', g1, g2⟩, g3⟩
      have g11 := g1.1
      have g13 := g1.2.1.1
      have rb := b2_r ((msk x t).testBit p)
      cases hb : (msk x t).testBit p with
      | true =>
        obtain ⟨e, he, hpe⟩ := (msk_bit x p t).mp hb
        refine ⟨(), v, ⟨⟨g, A', B', ba', bb', bo', g1, g2.cg (fun o => ?_)⟩, g3⟩, ?_⟩
        · constructor
          · rintro (q | ⟨q1, q2, q3⟩)
            · exact Or.inl q
            · exact Or.inr ⟨q1, q2, by omega⟩
          · rintro (q | ⟨q1, q2, q3⟩)
            · exact Or.inl q
            · refine Or.inr ⟨q1, q2, ?_⟩
              have : pAt o t ≠ p := fun z => by
                have := q1.inj (e := e) (e' := t) (by omega) (by omega) (by rw [q2 e he, hpe, z])
                omega
              omega
        · intro r' w' kk
          refine fr_iload dX2_tryOrders_25 rfl ?_
          refine fr_aload_n dX2_tryOrders_27 rfl ?_
          refine fr_get fX2_tryOrders_28 g11 rfl ?_
          refine fr_get fX2_tryOrders_31 g13 rfl ?_
          refine fr_icmp_ge (tgt := 73) dX2_tryOrders_34 (by decide) (by omega) (by omega) (fun c => ?_) (fun c => ?_)
          · omega
          refine fr_iload_n dX2_tryOrders_37 rfl ?_
          refine fr_iload dX2_tryOrders_38 rfl ?_
          refine fr_callS kX2_tryOrders_40 (c_holds 0 (msk x t) p v (by omega) (by omega)) (by omega) rfl rfl rfl ?_
          dsimp only [List.set, Option.toList, List.cons_append, List.nil_append]
          rw [hb]
          refine fr_if_ne (tgt := 67) dX2_tryOrders_43 (by decide) (by decide) (fun c2 => ?_) (fun c2 => ?_)
          · refine fr_iinc dX2_tryOrders_67 rfl (by decide) rfl rfl ?_
            dsimp only [List.set, Option.toList, List.cons_append, List.nil_append]
            refine fr_goto (tgt := 25) dX2_tryOrders_70 (by decide) ?_
            exact kk
          · exact absurd c2 (by decide)
      | false =>
        have hnp : ∀ e, e < t → pAt x e ≠ p := fun e he z => by
          have := (msk_bit x p t).mpr ⟨e, he, z⟩
          rw [hb] at this; cases this
        have hpa := pAt_add (x := x) (p := p) (t := t) hx (by omega)
        obtain ⟨y, hy⟩ : ∃ y, y = x + p * 2 ^ (3 * t) := ⟨_, rfl⟩
        rw [← hy] at hpa
        have hy8 : y < 2 ^ (3 * (t + 1)) := by
          rw [show 3 * (t + 1) = 3 * t + 3 by omega, Nat.pow_add, hy]
          have : p * 2 ^ (3 * t) ≤ 7 * 2 ^ (3 * t) := Nat.mul_le_mul_right _ (by omega)
          omega
        have hmy : ∀ e, e ≤ t → msk y e = msk x e := by
          intro e
          induction e with
          | zero => intro _; rfl
          | succ e ihe => intro he; rw [msk_s, msk_s, ihe (by omega), hpa.1 e (by omega)]
        have hmy1 : msk y (t + 1) = msk x t ||| 2 ^ p := by rw [msk_s, hmy t (Nat.le_refl t), hpa.2]
        obtain ⟨w2, f2, A2, B2, ba2, bb2, bo2, k1, k2, k3, k4⟩ := ih (t + 1) y (fun o => V o ∨ (vOrd n o ∧ preO t x o ∧ pAt o t < p)) v g A' B' ba' bb' bo' (by omega) hy8 (by
          intro e he
          by_cases q : e = t
          · rw [q, hpa.2]; exact hp
          · rw [hpa.1 e (by omega)]; exact hdg e (by omega)) (by
          intro e e' hee he'
          by_cases q : e' = t
          · rw [q, hpa.2, hpa.1 e (by omega)]; exact hnp e (by omega)
          · rw [hpa.1 e (by omega), hpa.1 e' (by omega)]; exact hdi e e' hee (by omega)) (by
          rintro o (q | q)
          · exact hV o q
          · exact q.1) (by
          rintro o' (q | ⟨q1, q2, q3⟩) c hc hpc
          · exact hlex o' q c hc (fun e he => by rw [hpc e (by omega), hpa.1 e he])
          · refine ⟨t, by omega, fun j hj => ?_, ?_⟩
            · rw [q2 j hj, hpc j (by omega), hpa.1 j hj]
            · rw [hpc t (by omega), hpa.2]; exact q3) g1 g2
        refine ⟨(), w2, ⟨⟨f2, A2, B2, ba2, bb2, bo2, k2, k3.cg (fun o => ?_)⟩, g3.trans k4⟩, ?_⟩
        · constructor
          · rintro ((q | ⟨q1, q2, q3⟩) | ⟨q1, q2⟩)
            · exact Or.inl q
            · exact Or.inr ⟨q1, q2, by omega⟩
            · refine Or.inr ⟨q1, fun e he => by rw [q2 e (by omega), hpa.1 e he], ?_⟩
              rw [q2 t (by omega), hpa.2]; omega
          · rintro (q | ⟨q1, q2, q3⟩)
            · exact Or.inl (Or.inl q)
            · by_cases z : pAt o t < p
              · exact Or.inl (Or.inr ⟨q1, q2, z⟩)
              · refine Or.inr ⟨q1, fun e he => ?_⟩
                by_cases z2 : e = t
                · rw [z2, hpa.2]; omega
                · rw [hpa.1 e (by omega)]; exact q2 e (by omega)
        · intro r' w' kk
          have hs := iI_shl (m := 1) p (by rw [Nat.one_mul]; have : 2 ^ p ≤ 2 ^ 6 := Nat.pow_le_pow_right (by decide) (by omega); omega) (by omega)
          rw [Nat.one_mul] at hs
          have hs3 := iI_shl (m := p) (3 * t) (by have : p * 2 ^ (3 * t) ≤ 6 * 2 ^ 15 := Nat.mul_le_mul (by omega) hp5; omega) (by omega)
          rw [hmy1] at k1
          rw [show ((t + 1 : Nat) : Int) = (t : Int) + 1 by omega] at k1
          refine fr_iload dX2_tryOrders_25 rfl ?_
          refine fr_aload_n dX2_tryOrders_27 rfl ?_
          refine fr_get fX2_tryOrders_28 g11 rfl ?_
          refine fr_get fX2_tryOrders_31 g13 rfl ?_
          refine fr_icmp_ge (tgt := 73) dX2_tryOrders_34 (by decide) (by omega) (by omega) (fun c => ?_) (fun c => ?_)
          · omega
          refine fr_iload_n dX2_tryOrders_37 rfl ?_
          refine fr_iload dX2_tryOrders_38 rfl ?_
          refine fr_callS kX2_tryOrders_40 (c_holds 0 (msk x t) p v (by omega) (by omega)) (by omega) rfl rfl rfl ?_
          dsimp only [List.set, Option.toList, List.cons_append, List.nil_append]
          rw [hb]
          refine fr_if_ne (tgt := 67) dX2_tryOrders_43 (by decide) (by decide) (fun c2 => ?_) (fun c2 => ?_)
          · exact absurd rfl c2
          refine fr_aload_n dX2_tryOrders_46 rfl ?_
          refine fr_iload_n dX2_tryOrders_47 rfl ?_
          refine fr_iconst dX2_tryOrders_48 ?_
          refine fr_iadd dX2_tryOrders_49 ?_
          refine fr_iload_n dX2_tryOrders_50 rfl ?_
          refine fr_iconst dX2_tryOrders_51 ?_
          refine fr_iload dX2_tryOrders_52 rfl ?_
          refine fr_ishl (((2 ^ p : Nat) : Int)) dX2_tryOrders_54 (hs) ?_
          refine fr_ior (((msk x t ||| 2 ^ p : Nat) : Int)) dX2_tryOrders_55 (iI_or _ _) ?_
          refine fr_iload_n dX2_tryOrders_56 rfl ?_
          refine fr_iload dX2_tryOrders_57 rfl ?_
          refine fr_iconst dX2_tryOrders_59 ?_
          refine fr_iload_n dX2_tryOrders_60 rfl ?_
          refine fr_imul dX2_tryOrders_61 ?_
          rw [show (3 : Int) * (t : Int) = ((3 * t : Nat) : Int) by omega]
          refine fr_ishl (((p * 2 ^ (3 * t) : Nat) : Int)) dX2_tryOrders_62 (hs3) ?_
          refine fr_ior ((y : Int)) dX2_tryOrders_63 (by rw [iI_or, or_add hx, ← hy]) ?_
          refine fr_callV kX2_tryOrders_64 (k1) (by omega) g11 rfl rfl rfl ?_
          dsimp only [List.set, Option.toList, List.cons_append, List.nil_append]
          refine fr_iinc dX2_tryOrders_67 rfl (by decide) rfl rfl ?_
          dsimp only [List.set, Option.toList, List.cons_append, List.nil_append]
          refine fr_goto (tgt := 25) dX2_tryOrders_70 (by decide) ?_
          exact kk)
    obtain ⟨_, wE, ⟨⟨g, A', B', ba', bb', bo', e1, e2⟩, e3⟩, hr⟩ := loop 0 () w (Nat.zero_le _) ⟨⟨f, A, B, ba, bb, bo, hLA, hB.cg (fun o => ⟨fun q => Or.inl q, fun q => by rcases q with q | q; exact q; exact absurd q.2.2 (Nat.not_lt_zero _)⟩)⟩, kp.rf⟩
    refine ⟨wE, g, A', B', ba', bb', bo', ?_, e1, e2.cg (fun o => ?_), e3⟩
    · have h1 := hLA.1
      have h3 := hLA.2.1.1
      have e11 := e1.1
      have e13 := e1.2.1.1
      refine fw_K.of (by decide) (Nat.le_of_ble_eq_true rfl) (by simp [Value.category]) (e3.1) ?_
      show fw_R _ _ 0 [some (.ref 13), some (.int (iI t)), some (.int (iI (msk x t))), some (.int (iI x)), none] [] _ _ _
      refine fr_iload_n dX2_tryOrders_0 rfl ?_
      refine fr_aload_n dX2_tryOrders_1 rfl ?_
      refine fr_get fX2_tryOrders_2 h1 rfl ?_
      refine fr_get fX2_tryOrders_5 h3 rfl ?_
      refine fr_icmp_lt (tgt := 22) dX2_tryOrders_8 (by decide) (by omega) (by omega) (fun c => ?_) (fun c => ?_)
      · refine fr_iconst dX2_tryOrders_22 ?_
        refine fr_istore dX2_tryOrders_23 (by decide) rfl rfl ?_
        dsimp only [List.set, Option.toList, List.cons_append, List.nil_append]
        refine hr _ _ ?_
        refine fr_iload dX2_tryOrders_25 rfl ?_
        refine fr_aload_n dX2_tryOrders_27 rfl ?_
        refine fr_get fX2_tryOrders_28 e11 rfl ?_
        refine fr_get fX2_tryOrders_31 e13 rfl ?_
        refine fr_icmp_ge (tgt := 73) dX2_tryOrders_34 (by decide) (by omega) (by omega) (fun c2 => ?_) (fun c2 => ?_)
        · exact fr_vret dX2_tryOrders_73 rfl rfl (rfl)
        · omega
      · omega
    · constructor
      · rintro (q | ⟨q1, q2, q3⟩)
        · exact Or.inl q
        · exact Or.inr ⟨q1, q2⟩
      · rintro (q | ⟨q1, q2⟩)
        · exact Or.inl q
        · exact Or.inr ⟨q1, q2, q1.on.2 t (by omega)⟩
theorem vOrd_ex : ∀ n : Nat, n < 7 → 2 ≤ n → ∃ o : Nat, vOrd n o := by
  intro n h1 h2
  rcases (show n = 2 ∨ n = 3 ∨ n = 4 ∨ n = 5 ∨ n = 6 by omega) with rfl | rfl | rfl | rfl | rfl
  · exact ⟨8, by decide, by decide⟩
  · exact ⟨136, by decide, by decide⟩
  · exact ⟨1672, by decide, by decide⟩
  · exact ⟨18056, by decide, by decide⟩
  · exact ⟨181896, by decide, by decide⟩
/-- THE BEST of all orders -/
def isBest (n : Nat) (D : Nat → Nat → Int) (o : Nat) : Prop := ∃ ba bb, BSt n D (vOrd n) (o : Int) ba bb
theorem isBest.uniq {n o o' : Nat} {D : Nat → Nat → Int} (h : isBest n D o) (h' : isBest n D o') : o = o' := by
  obtain ⟨ba, bb, h⟩ := h
  obtain ⟨ba', bb', h'⟩ := h'
  rcases h with ⟨h1, -⟩ | ⟨p, h1, h2, h3, -, -, h6⟩
  · omega
  rcases h' with ⟨h1', -⟩ | ⟨p', h1', h2', h3', -, -, h6'⟩
  · omega
  have e1 : o = p := by omega
  have e2 : o' = p' := by omega
  subst e1; subst e2
  have a1 := h6 o' h2' ba' bb' h3'
  have a2 := h6' o h2 ba bb h3
  rcases a1 with a1 | ⟨a1, a3⟩
  · rcases a2 with a2 | ⟨a2, -⟩ <;> omega
  · rcases a2 with a2 | ⟨a2, a4⟩
    · omega
    · rcases a3 with a3 | a3
      · exact a3
      · rcases a4 with a4 | a4
        · exact a4.symm
        · exact absurd a4 (lex_asym a3)
theorem isBest.v {n o : Nat} {D : Nat → Nat → Int} (h : isBest n D o) : vOrd n o := by
  obtain ⟨ba, bb, h⟩ := h
  rcases h with ⟨h1, -⟩ | ⟨p, h1, h2, -⟩
  · omega
  · rw [show o = p by omega]; exact h2
theorem c_leastStretched {d n A B ba bb : Nat} {bo : Int} {D : Nat → Nat → Int} {f : Nat → Int} {w : fw_S} (hd : 11 ≤ d) (h : LA w n D f A B bo ba bb) (hD : okR n D 30) : ∃ (w' : fw_S) (f' : Nat → Int) (A' B' ba' bb' o : Nat), fw_K d mX2_leastStretched [.ref 13] w (some (.int (iI o))) w' ∧ LA w' n D f' A' B' o ba' bb' ∧ isBest n D o ∧ kp w w' (fun k => k = 13 ∨ k = 14) := by
  have hn := h.2.1.2.2
  have u1 := h.up A B (-4) ba bb
  obtain ⟨w1, f1, A1, B1, ba1, bb1, bo1, k1, k2, k3, k4⟩ := c_tryOrders hD n 0 0 (fun _ => False) _ f A B ba bb (-4) (by omega) (by decide) (fun e he => absurd he (Nat.not_lt_zero e)) (fun e e' _ he => absurd he (Nat.not_lt_zero e')) (fun o q => q.elim) (fun o q => q.elim) u1 (Or.inl ⟨rfl, fun o q => q⟩)
  have k3' := k3.cg (V' := vOrd n) (fun o => ⟨fun q => by rcases q with q | q; exact q.elim; exact q.1, fun q => Or.inr ⟨q, fun e he => absurd he (Nat.not_lt_zero e)⟩⟩)
  obtain ⟨o, ho⟩ : ∃ o : Nat, bo1 = (o : Int) := by
    rcases k3' with ⟨h1, h2⟩ | ⟨o, h1, -⟩
    · obtain ⟨o, ho⟩ := vOrd_ex n (by omega) hn.1
      exact absurd ho (h2 o)
    · exact ⟨o, h1⟩
  subst ho
  have kall : kp w w1 (fun k => k = 13 ∨ k = 14) := ((kp.up w 13 _).mono (fun k hk => Or.inl hk)).trans k4
  refine ⟨w1, f1, A1, B1, ba1, bb1, o, ?_, k2, ⟨ba1, bb1, k3'⟩, kall⟩
  have h1 := h.1
  have u11 := u1.1
  have k21 := k2.1
  refine fw_K.of (by decide) (Nat.le_of_ble_eq_true rfl) (by simp [Value.category]) (kall.1) ?_
  show fw_R _ _ 0 [some (.ref 13)] [] _ _ _
  refine fr_aload_n dX2_leastStretched_0 rfl ?_
  refine fr_bipush dX2_leastStretched_1 (by decide) ?_
  refine fr_put fX2_leastStretched_3 pfX2_4 h1 (by simp) rfl ?_
  dsimp only [List.set, Option.toList, List.cons_append, List.nil_append]
  refine fr_aload_n dX2_leastStretched_6 rfl ?_
  refine fr_iconst dX2_leastStretched_7 ?_
  refine fr_iconst dX2_leastStretched_8 ?_
  refine fr_iconst dX2_leastStretched_9 ?_
  refine fr_callV kX2_leastStretched_10 (k1) (by omega) u11 rfl rfl rfl ?_
  dsimp only [List.set, Option.toList, List.cons_append, List.nil_append]
  refine fr_aload_n dX2_leastStretched_13 rfl ?_
  refine fr_get fX2_leastStretched_14 k21 rfl ?_
  exact fr_iret dX2_leastStretched_17 rfl (rfl) (rfl)
end
section
/-! the reference: its table. Cells: 18 itself, 19 d, 20 left, 21 peels, 22 numbers, 23 point, 24 worths, 25 place -/
def mE (n : Nat) (A B : Int) : fw_E := .inl (8, [.int (iI n), .ref 19, .ref 20, .ref 21, .ref 22, .ref 23, .ref 24, .ref 25, .int (iI A), .int (iI B)])
def mA (w : fw_S) (n : Nat) (D : Nat → Nat → Int) (A B : Int) : Prop := fw_g w 18 (.inl (8, [.int (iI n), .ref 19, .ref 20, .ref 21, .ref 22, .ref 23, .ref 24, .ref 25, .int (iI A), .int (iI B)])) ∧ (∃ f, fw_g w 19 (.inr (36, .inl f)) ∧ ∀ i j, i < n → j < n → f (6 * i + j) = D i j) ∧ 2 ≤ n ∧ n ≤ 6
theorem mA.kp {w w' : fw_S} {X : Nat → Prop} {n : Nat} {D : Nat → Nat → Int} {A B : Int} (h : mA w n D A B) (hk : kp w w' X) (ho : ¬ X 18) (ha : ¬ X 19) : mA w' n D A B := by
  obtain ⟨h1, ⟨f, h2, h3⟩, h4⟩ := h
  exact ⟨hk.g ho h1, ⟨f, hk.g ha h2, h3⟩, h4⟩
theorem mA.cg {w : fw_S} {n : Nat} {D D' : Nat → Nat → Int} {A B : Int} (h : mA w n D A B) (hD : ∀ i j, i < n → j < n → D i j = D' i j) : mA w n D' A B := by
  obtain ⟨h1, ⟨f, h2, h3⟩, h4⟩ := h
  exact ⟨h1, ⟨f, h2, fun i j hi hj => (h3 i j hi hj).trans (hD i j hi hj)⟩, h4⟩
theorem c_in {d : Nat} {w : fw_S} {v lo hi : Int} (h1 : -2147483648 ≤ v ∧ v ≤ 2147483647) (h2 : -2147483648 ≤ lo ∧ lo ≤ 2147483647) (h3 : -2147483648 ≤ hi ∧ hi ≤ 2147483647) : fw_K d mX8_in [.int (iI v), .int (iI lo), .int (iI hi)] w (some (.int (iI (b2 (decide (lo ≤ v ∧ v ≤ hi)))))) w := by
  refine fw_K.of (by decide) (Nat.le_of_ble_eq_true rfl) (by simp [Value.category]) (rfl) ?_
  show fw_R _ _ 0 [some (.int (iI v)), some (.int (iI lo)), some (.int (iI hi))] [] _ _ _
  refine fr_iload_n dX8_in_0 rfl ?_
  refine fr_iload_n dX8_in_1 rfl ?_
  refine fr_icmp_lt (tgt := 14) dX8_in_2 (by decide) (by omega) (by omega) (fun c => ?_) (fun c => ?_)
  · refine fr_iconst dX8_in_14 ?_
    exact fr_zret dX8_in_15 rfl (by decide) (by rw [show decide (lo ≤ v ∧ v ≤ hi) = false by simp only [decide_eq_false_iff_not]; omega]; rfl) (rfl)
  · refine fr_iload_n dX8_in_5 rfl ?_
    refine fr_iload_n dX8_in_6 rfl ?_
    refine fr_icmp_gt (tgt := 14) dX8_in_7 (by decide) (by omega) (by omega) (fun c2 => ?_) (fun c2 => ?_)
    · refine fr_iconst dX8_in_14 ?_
      exact fr_zret dX8_in_15 rfl (by decide) (by rw [show decide (lo ≤ v ∧ v ≤ hi) = false by simp only [decide_eq_false_iff_not]; omega]; rfl) (rfl)
    · refine fr_iconst dX8_in_10 ?_
      refine fr_goto (tgt := 15) dX8_in_11 (by decide) ?_
      exact fr_zret dX8_in_15 rfl (by decide) (by rw [show decide (lo ≤ v ∧ v ≤ hi) = true by simp only [decide_eq_true_eq]; omega]; rfl) (rfl)
theorem c_mdist {d n i j : Nat} {D : Nat → Nat → Int} {A B : Int} {w : fw_S} (h : mA w n D A B) (hi : i < n) (hj : j < n) : fw_K d mX8_dist [.ref 18, .int (iI i), .int (iI j)] w (some (.int (iI (D i j)))) w := by
  obtain ⟨h1, ⟨f, h2, h3⟩, h4, h5⟩ := h
  refine fw_K.of (by decide) (Nat.le_of_ble_eq_true rfl) (by simp [Value.category]) (rfl) ?_
  show fw_R _ _ 0 [some (.ref 18), some (.int (iI i)), some (.int (iI j))] [] _ _ _
  refine fr_aload_n dX8_dist_0 rfl ?_
  refine fr_get fX8_dist_1 h1 rfl ?_
  refine fr_bipush dX8_dist_4 (by decide) ?_
  refine fr_iload_n dX8_dist_6 rfl ?_
  refine fr_imul dX8_dist_7 ?_
  refine fr_iload_n dX8_dist_8 rfl ?_
  refine fr_iadd dX8_dist_9 ?_
  refine fr_iald (6 * i + j) dX8_dist_10 h2 (by omega) (by omega) (by decide) ?_
  rw [h3 i j hi hj]
  exact fr_iret dX8_dist_11 rfl (rfl) (rfl)
theorem c_misPoint {d n : Nat} {D : Nat → Nat → Int} {A B : Int} {w : fw_S} (hd : 1 ≤ d) (h : mA w n D A B) {i : Int} (hi : -2147483648 ≤ i ∧ i ≤ 2147483647) : fw_K d mX8_isPoint [.ref 18, .int (iI i)] w (some (.int (iI (b2 (decide (0 ≤ i ∧ i < n)))))) w := by
  have h1 := h.1
  have hn := h.2.2
  have hin := c_in (d := 0) (w := w) (v := i) (lo := 0) (hi := (n : Int) - 1) hi (by omega) (by omega)
  rw [show decide (0 ≤ i ∧ i ≤ (n : Int) - 1) = decide (0 ≤ i ∧ i < (n : Int)) by by_cases z : 0 ≤ i ∧ i < (n : Int) <;> simp [z] <;> omega] at hin
  refine fw_K.of (by decide) (Nat.le_of_ble_eq_true rfl) (by simp [Value.category]) (rfl) ?_
  show fw_R _ _ 0 [some (.ref 18), some (.int (iI i))] [] _ _ _
  refine fr_iload_n dX8_isPoint_0 rfl ?_
  refine fr_iconst dX8_isPoint_1 ?_
  refine fr_aload_n dX8_isPoint_2 rfl ?_
  refine fr_get fX8_isPoint_3 h1 rfl ?_
  refine fr_iconst dX8_isPoint_6 ?_
  refine fr_isub dX8_isPoint_7 ?_
  refine fr_callS kX8_isPoint_8 (hin) (by omega) rfl rfl rfl ?_
  dsimp only [List.set, Option.toList, List.cons_append, List.nil_append]
  exact fr_zret dX8_isPoint_11 rfl (b2_nar _) rfl rfl
theorem c_mfills {d o dA : Nat} {x : Int32} {es : List Value} {f0 : Nat → Int} {w : fw_S} (h1 : fw_g w o (.inl (8, .int x :: .ref dA :: es))) (h2 : fw_g w dA (.inr (36, .inl f0))) : ∃ w', fw_K d mX8_fills [.ref o] w none w' ∧ (∃ f, fw_g w' dA (.inr (36, .inl f)) ∧ ∀ k, k < 36 → f k = if k / 6 = k % 6 then 0 else 1) ∧ kp w w' (fun k => k = dA) := by
  have hoa := h1.oa h2
  have lp := lpE (M := mX8_fills) (d := d) (pcH := 2) 36 (fun k _ => [some (.ref o), some (.int (iI k))]) (fun k (_ : Unit) v => fw_g v o (.inl (8, .int x :: .ref dA :: es)) ∧ (∃ f, fw_g v dA (.inr (36, .inl f)) ∧ ∀ k', k' < k → f k' = if k' / 6 = k' % 6 then 0 else 1) ∧ kp w v (fun k => k = dA)) (by
    intro k _ v hk ⟨g1, ⟨f, g2, g3⟩, g4⟩
    refine ⟨(), fw_up v dA (.inr (36, .inl (fw_u f k (if k / 6 = k % 6 then 0 else 1)))), ⟨g1.ne _ hoa, ⟨_, g2.up _, fun k' hk' => ?_⟩, g4.trans (kp.up _ _ _)⟩, ?_⟩
    · by_cases e : k' = k
      · subst e; rw [fw_u_self]
      · rw [fw_u_ne _ _ e]; exact g3 k' (by omega)
    · intro r w' kk
      have e1 : (k : Int).tdiv 6 = ((k / 6 : Nat) : Int) := td_nat k 6
      have e2 : (k : Int).tmod 6 = ((k % 6 : Nat) : Int) := tm_nat k 6
      refine fr_iload_n dX8_fills_2 rfl ?_
      refine fr_bipush dX8_fills_3 (by decide) ?_
      refine fr_icmp_ge (tgt := 36) dX8_fills_5 (by decide) (by omega) (by omega) (fun c => ?_) (fun c => ?_)
      · omega
      refine fr_aload_n dX8_fills_8 rfl ?_
      refine fr_get fX8_fills_9 g1 rfl ?_
      refine fr_iload_n dX8_fills_12 rfl ?_
      refine fr_iload_n dX8_fills_13 rfl ?_
      refine fr_bipush dX8_fills_14 (by decide) ?_
      refine fr_idiv dX8_fills_16 (by omega) (by omega) (by omega) ?_
      refine fr_iload_n dX8_fills_17 rfl ?_
      refine fr_bipush dX8_fills_18 (by decide) ?_
      refine fr_irem dX8_fills_20 (by omega) (by omega) (by omega) ?_
      rw [e1, e2]
      refine fr_icmp_ne (tgt := 28) dX8_fills_21 (by decide) (by omega) (by omega) (fun c2 => ?_) (fun c2 => ?_)
      · rw [if_neg (by omega)] at kk
        refine fr_iconst dX8_fills_28 ?_
        refine fr_iast (k) dX8_fills_29 g2 (by omega) (by omega) (by decide) ?_
        refine fr_iinc dX8_fills_30 rfl (by decide) rfl rfl ?_
        dsimp only [List.set, Option.toList, List.cons_append, List.nil_append]
        refine fr_goto (tgt := 2) dX8_fills_33 (by decide) ?_
        exact kk
      · rw [if_pos (by omega)] at kk
        refine fr_iconst dX8_fills_24 ?_
        refine fr_goto (tgt := 29) dX8_fills_25 (by decide) ?_
        refine fr_iast (k) dX8_fills_29 g2 (by omega) (by omega) (by decide) ?_
        refine fr_iinc dX8_fills_30 rfl (by decide) rfl rfl ?_
        dsimp only [List.set, Option.toList, List.cons_append, List.nil_append]
        refine fr_goto (tgt := 2) dX8_fills_33 (by decide) ?_
        exact kk)
  obtain ⟨_, wE, ⟨e1, ⟨f, e2, e3⟩, e4⟩, hr⟩ := lp 0 () w (Nat.zero_le _) ⟨h1, ⟨f0, h2, fun k hk => absurd hk (Nat.not_lt_zero k)⟩, kp.rf⟩
  refine ⟨wE, ?_, ⟨f, e2, e3⟩, e4⟩
  refine fw_K.of (by decide) (Nat.le_of_ble_eq_true rfl) (by simp [Value.category]) (e4.1) ?_
  show fw_R _ _ 0 [some (.ref o), none] [] _ _ _
  refine fr_iconst dX8_fills_0 ?_
  refine fr_istore_n dX8_fills_1 rfl (by decide) rfl rfl ?_
  dsimp only [List.set, Option.toList, List.cons_append, List.nil_append]
  refine hr _ _ ?_
  refine fr_iload_n dX8_fills_2 rfl ?_
  refine fr_bipush dX8_fills_3 (by decide) ?_
  refine fr_icmp_ge (tgt := 36) dX8_fills_5 (by decide) (by omega) (by omega) (fun c => ?_) (fun c => ?_)
  · exact fr_vret dX8_fills_36 rfl rfl (rfl)
  · omega
theorem mA.up {w : fw_S} {n : Nat} {D : Nat → Nat → Int} {A B : Int} (h : mA w n D A B) (A' B' : Int) : mA (fw_up w 18 (mE n A' B')) n D A' B' := by
  obtain ⟨h1, ⟨f, h2, h3⟩, h4⟩ := h
  exact ⟨h1.up _, ⟨f, h2.ne _ (by decide), h3⟩, h4⟩
theorem c_mtable {d n : Nat} {D : Nat → Nat → Int} {A B z : Int} {w : fw_S} (hd : 1 ≤ d) (h : mA w n D A B) (hz : -2147483648 ≤ z ∧ z ≤ 2147483647) : ∃ w', fw_K d mX8_table [.ref 18, .int (iI z)] w (some (.int (iI (if 2 ≤ z ∧ z ≤ 6 then z else -1)))) w' ∧ (if 2 ≤ z ∧ z ≤ 6 then mA w' z.toNat D1 A B else mA w' n D A B) ∧ kp w w' (fun k => k = 18 ∨ k = 19) := by
  have hin := c_in (d := 0) (w := w) (v := z) (lo := 2) (hi := 6) hz (by omega) (by omega)
  by_cases hc : 2 ≤ z ∧ z ≤ 6
  · simp only [if_pos hc]
    obtain ⟨m, rfl⟩ := Int.eq_ofNat_of_zero_le (show 0 ≤ z by omega)
    rw [Int.toNat_natCast]
    rw [show decide ((2 : Int) ≤ (m : Int) ∧ (m : Int) ≤ 6) = true by simp only [decide_eq_true_eq]; omega] at hin
    obtain ⟨h1, ⟨f, h2, h3⟩, h4⟩ := h
    have u1 := h1.up (.inl (8, [.int (iI m), .ref 19, .ref 20, .ref 21, .ref 22, .ref 23, .ref 24, .ref 25, .int (iI A), .int (iI B)]))
    have u2 := h2.ne (k := 18) (.inl (8, [.int (iI m), .ref 19, .ref 20, .ref 21, .ref 22, .ref 23, .ref 24, .ref 25, .int (iI A), .int (iI B)])) (by decide)
    obtain ⟨w1, k1, ⟨g, k2, k3⟩, k4⟩ := c_mfills (d := 0) u1 u2
    have kall : kp w w1 (fun k => k = 18 ∨ k = 19) := ((kp.up w 18 _).mono (fun k hk => Or.inl hk)).trans (k4.mono (fun k hk => Or.inr hk))
    have k5 := k4.g (k := 18) (by decide) u1
    refine ⟨w1, ?_, ⟨k5, ⟨g, k2, fun i j hi hj => ?_⟩, by omega⟩, kall⟩
    · refine fw_K.of (by decide) (Nat.le_of_ble_eq_true rfl) (by simp [Value.category]) (kall.1) ?_
      show fw_R _ _ 0 [some (.ref 18), some (.int (iI m))] [] _ _ _
      refine fr_iload_n dX8_table_0 rfl ?_
      refine fr_iconst dX8_table_1 ?_
      refine fr_bipush dX8_table_2 (by decide) ?_
      refine fr_callS kX8_table_4 (hin) (by omega) rfl rfl rfl ?_
      dsimp only [List.set, Option.toList, List.cons_append, List.nil_append]
      refine fr_if_ne (tgt := 12) dX8_table_7 (by decide) (by decide) (fun c => ?_) (fun c => ?_)
      · refine fr_aload_n dX8_table_12 rfl ?_
        refine fr_iload_n dX8_table_13 rfl ?_
        refine fr_put fX8_table_14 pfX8_0 h1 (by simp) rfl ?_
        dsimp only [List.set, Option.toList, List.cons_append, List.nil_append]
        refine fr_aload_n dX8_table_17 rfl ?_
        refine fr_callV kX8_table_18 (k1) (by omega) u1 rfl rfl rfl ?_
        dsimp only [List.set, Option.toList, List.cons_append, List.nil_append]
        refine fr_aload_n dX8_table_21 rfl ?_
        refine fr_get fX8_table_22 k5 rfl ?_
        exact fr_iret dX8_table_25 rfl (rfl) (rfl)
      · exact absurd c (by decide)
    · rw [k3 _ (by omega), show (6 * i + j) / 6 = i by omega, show (6 * i + j) % 6 = j by omega]; rfl
  · simp only [if_neg hc]
    rw [show decide ((2 : Int) ≤ z ∧ z ≤ 6) = false by simp only [decide_eq_false_iff_not]; exact hc] at hin
    refine ⟨w, ?_, h, kp.rf⟩
    refine fw_K.of (by decide) (Nat.le_of_ble_eq_true rfl) (by simp [Value.category]) (rfl) ?_
    show fw_R _ _ 0 [some (.ref 18), some (.int (iI z))] [] _ _ _
    refine fr_iload_n dX8_table_0 rfl ?_
    refine fr_iconst dX8_table_1 ?_
    refine fr_bipush dX8_table_2 (by decide) ?_
    refine fr_callS kX8_table_4 (hin) (by omega) rfl rfl rfl ?_
    dsimp only [List.set, Option.toList, List.cons_append, List.nil_append]
    refine fr_if_ne (tgt := 12) dX8_table_7 (by decide) (by decide) (fun c => ?_) (fun c => ?_)
    · exact absurd rfl c
    · refine fr_iconst dX8_table_10 ?_
      exact fr_iret dX8_table_11 rfl (rfl) (rfl)
/-- a pair of points -/
def isPr (n : Nat) (i j : Int) : Prop := (0 ≤ i ∧ i < n) ∧ (0 ≤ j ∧ j < n)
theorem c_mset {d n : Nat} {D : Nat → Nat → Int} {A B i j v : Int} {w : fw_S} (hd : 2 ≤ d) (h : mA w n D A B) (hi : -2147483648 ≤ i ∧ i ≤ 2147483647) (hj : -2147483648 ≤ j ∧ j ≤ 2147483647) (hv : -2147483648 ≤ v ∧ v ≤ 2147483647) : ∃ w', (isPr n i j ∧ i ≠ j ∧ 0 ≤ v ∧ v ≤ 30 → fw_K d mX8_set [.ref 18, .int (iI i), .int (iI j), .int (iI v)] w (some (.int (iI (D i.toNat j.toNat)))) w' ∧ mA w' n (setD D i.toNat j.toNat v) A B) ∧ (¬ (isPr n i j ∧ i ≠ j ∧ 0 ≤ v ∧ v ≤ 30) → fw_K d mX8_set [.ref 18, .int (iI i), .int (iI j), .int (iI v)] w (some (.int (iI (-1)))) w' ∧ mA w' n D A B) ∧ kp w w' (fun k => k = 19) := by
  have h1 := h.1
  have hn := h.2.2
  have hpi := c_misPoint (d := 1) (by omega) h hi
  have hpj := c_misPoint (d := 1) (by omega) h hj
  have hin := c_in (d := 0) (w := w) (v := v) (lo := 0) (hi := 30) hv (by omega) (by omega)
  have r1 := b2_r (decide (0 ≤ i ∧ i < (n : Int)))
  have r2 := b2_r (decide (0 ≤ j ∧ j < (n : Int)))
  have r3 := b2_r (decide (0 ≤ v ∧ v ≤ 30))
  by_cases hc : isPr n i j ∧ i ≠ j ∧ 0 ≤ v ∧ v ≤ 30
  · obtain ⟨⟨ci, cj⟩, cij, cv⟩ := hc
    obtain ⟨p, rfl⟩ := Int.eq_ofNat_of_zero_le ci.1
    obtain ⟨q, rfl⟩ := Int.eq_ofNat_of_zero_le cj.1
    obtain ⟨-, ⟨f, h2, h3⟩, -⟩ := id h
    have hdist := c_mdist (d := 0) h (i := p) (j := q) (by omega) (by omega)
    refine ⟨fw_up (fw_up w 19 (.inr (36, .inl (fw_u f (6 * p + q) v)))) 19 (.inr (36, .inl (fw_u (fw_u f (6 * p + q) v) (6 * q + p) v))), fun _ => ⟨?_, (h1.ne _ (by decide)).ne _ (by decide), ⟨_, (h2.up _).up _, fun x y hx hy => ?_⟩, hn⟩, fun z => absurd ⟨⟨ci, cj⟩, cij, cv⟩ z, (kp.up _ _ _).trans (kp.up _ _ _)⟩
    · rw [show decide (0 ≤ (p : Int) ∧ (p : Int) < (n : Int)) = true by simp only [decide_eq_true_eq]; exact ci] at hpi
      rw [show decide (0 ≤ (q : Int) ∧ (q : Int) < (n : Int)) = true by simp only [decide_eq_true_eq]; exact cj] at hpj
      rw [show decide (0 ≤ v ∧ v ≤ 30) = true by simp only [decide_eq_true_eq]; exact cv] at hin
      have u1 := h1.ne (k := 19) (.inr (36, .inl (fw_u f (6 * p + q) v))) (by decide)
      have u2 := h2.up (.inr (36, .inl (fw_u f (6 * p + q) v)))
      rw [Int.toNat_natCast, Int.toNat_natCast]
      refine fw_K.of (by decide) (Nat.le_of_ble_eq_true rfl) (by simp [Value.category]) (rfl) ?_
      show fw_R _ _ 0 [some (.ref 18), some (.int (iI p)), some (.int (iI q)), some (.int (iI v)), none] [] _ _ _
      refine fr_aload_n dX8_set_0 rfl ?_
      refine fr_iload_n dX8_set_1 rfl ?_
      refine fr_callV kX8_set_2 (hpi) (by omega) h1 rfl rfl rfl ?_
      dsimp only [List.set, Option.toList, List.cons_append, List.nil_append]
      refine fr_if_eq (tgt := 31) dX8_set_5 (by decide) (by decide) (fun c => ?_) (fun c => ?_)
      · exact absurd c (by decide)
      refine fr_aload_n dX8_set_8 rfl ?_
      refine fr_iload_n dX8_set_9 rfl ?_
      refine fr_callV kX8_set_10 (hpj) (by omega) h1 rfl rfl rfl ?_
      dsimp only [List.set, Option.toList, List.cons_append, List.nil_append]
      refine fr_if_eq (tgt := 31) dX8_set_13 (by decide) (by decide) (fun c => ?_) (fun c => ?_)
      · exact absurd c (by decide)
      refine fr_iload_n dX8_set_16 rfl ?_
      refine fr_iload_n dX8_set_17 rfl ?_
      refine fr_icmp_eq (tgt := 31) dX8_set_18 (by decide) (by omega) (by omega) (fun c => ?_) (fun c => ?_)
      · exact absurd c cij
      refine fr_iload_n dX8_set_21 rfl ?_
      refine fr_iconst dX8_set_22 ?_
      refine fr_bipush dX8_set_23 (by decide) ?_
      refine fr_callS kX8_set_25 (hin) (by omega) rfl rfl rfl ?_
      dsimp only [List.set, Option.toList, List.cons_append, List.nil_append]
      refine fr_if_ne (tgt := 33) dX8_set_28 (by decide) (by decide) (fun c => ?_) (fun c => ?_)
      · refine fr_aload_n dX8_set_33 rfl ?_
        refine fr_iload_n dX8_set_34 rfl ?_
        refine fr_iload_n dX8_set_35 rfl ?_
        refine fr_callV kX8_set_36 (hdist) (by omega) h1 rfl rfl rfl ?_
        dsimp only [List.set, Option.toList, List.cons_append, List.nil_append]
        refine fr_istore dX8_set_39 (by decide) rfl rfl ?_
        dsimp only [List.set, Option.toList, List.cons_append, List.nil_append]
        refine fr_aload_n dX8_set_41 rfl ?_
        refine fr_get fX8_set_42 h1 rfl ?_
        refine fr_bipush dX8_set_45 (by decide) ?_
        refine fr_iload_n dX8_set_47 rfl ?_
        refine fr_imul dX8_set_48 ?_
        refine fr_iload_n dX8_set_49 rfl ?_
        refine fr_iadd dX8_set_50 ?_
        refine fr_iload_n dX8_set_51 rfl ?_
        refine fr_iast (6 * p + q) dX8_set_52 h2 (by omega) (by omega) (by decide) ?_
        refine fr_aload_n dX8_set_53 rfl ?_
        refine fr_get fX8_set_54 u1 rfl ?_
        refine fr_bipush dX8_set_57 (by decide) ?_
        refine fr_iload_n dX8_set_59 rfl ?_
        refine fr_imul dX8_set_60 ?_
        refine fr_iload_n dX8_set_61 rfl ?_
        refine fr_iadd dX8_set_62 ?_
        refine fr_iload_n dX8_set_63 rfl ?_
        refine fr_iast (6 * q + p) dX8_set_64 u2 (by omega) (by omega) (by decide) ?_
        refine fr_iload dX8_set_65 rfl ?_
        exact fr_iret dX8_set_67 rfl (rfl) (rfl)
      · exact absurd c (by decide)
    · rw [Int.toNat_natCast, Int.toNat_natCast]
      unfold setD
      by_cases e1 : 6 * x + y = 6 * q + p
      · rw [e1, fw_u_self, if_pos (by omega)]
      · rw [fw_u_ne _ _ e1]
        by_cases e2 : 6 * x + y = 6 * p + q
        · rw [e2, fw_u_self, if_pos (by omega)]
        · rw [fw_u_ne _ _ e2, if_neg (by omega)]; exact h3 x y hx hy
  · refine ⟨w, fun z => absurd z hc, fun _ => ⟨?_, h⟩, kp.rf⟩
    have fin : ∀ x4, fw_R mX8_set d 31 [some (.ref 18), some (.int (iI i)), some (.int (iI j)), some (.int (iI v)), x4] [] w (some (.int (iI (-1)))) w := by
      intro x4
      refine fr_iconst dX8_set_31 ?_
      exact fr_iret dX8_set_32 rfl (rfl) (rfl)
    refine fw_K.of (by decide) (Nat.le_of_ble_eq_true rfl) (by simp [Value.category]) (rfl) ?_
    show fw_R _ _ 0 [some (.ref 18), some (.int (iI i)), some (.int (iI j)), some (.int (iI v)), none] [] _ _ _
    refine fr_aload_n dX8_set_0 rfl ?_
    refine fr_iload_n dX8_set_1 rfl ?_
    refine fr_callV kX8_set_2 (hpi) (by omega) h1 rfl rfl rfl ?_
    dsimp only [List.set, Option.toList, List.cons_append, List.nil_append]
    refine fr_if_eq (tgt := 31) dX8_set_5 (by decide) (by omega) (fun c1 => ?_) (fun c1 => ?_)
    · exact fin _
    refine fr_aload_n dX8_set_8 rfl ?_
    refine fr_iload_n dX8_set_9 rfl ?_
    refine fr_callV kX8_set_10 (hpj) (by omega) h1 rfl rfl rfl ?_
    dsimp only [List.set, Option.toList, List.cons_append, List.nil_append]
    refine fr_if_eq (tgt := 31) dX8_set_13 (by decide) (by omega) (fun c2 => ?_) (fun c2 => ?_)
    · exact fin _
    refine fr_iload_n dX8_set_16 rfl ?_
    refine fr_iload_n dX8_set_17 rfl ?_
    refine fr_icmp_eq (tgt := 31) dX8_set_18 (by decide) (by omega) (by omega) (fun c3 => ?_) (fun c3 => ?_)
    · exact fin _
    refine fr_iload_n dX8_set_21 rfl ?_
    refine fr_iconst dX8_set_22 ?_
    refine fr_bipush dX8_set_23 (by decide) ?_
    refine fr_callS kX8_set_25 (hin) (by omega) rfl rfl rfl ?_
    dsimp only [List.set, Option.toList, List.cons_append, List.nil_append]
    refine fr_if_ne (tgt := 33) dX8_set_28 (by decide) (by omega) (fun c4 => ?_) (fun c4 => ?_)
    · have d1 := b2_n0.mp c1
      have d2 := b2_n0.mp c2
      have d4 := b2_n0.mp c4
      simp only [decide_eq_true_eq] at d1 d2 d4
      exact absurd ⟨⟨d1, d2⟩, c3, d4⟩ hc
    · exact fin _
theorem c_mat {d n : Nat} {D : Nat → Nat → Int} {A B i j : Int} {w : fw_S} (hd : 2 ≤ d) (h : mA w n D A B) (hi : -2147483648 ≤ i ∧ i ≤ 2147483647) (hj : -2147483648 ≤ j ∧ j ≤ 2147483647) (z : Int) (hz : (isPr n i j → z = D i.toNat j.toNat) ∧ (¬ isPr n i j → z = -1)) : fw_K d mX8_at [.ref 18, .int (iI i), .int (iI j)] w (some (.int (iI z))) w := by
  have h1 := h.1
  have hpi := c_misPoint (d := 1) (by omega) h hi
  have hpj := c_misPoint (d := 1) (by omega) h hj
  have r1 := b2_r (decide (0 ≤ i ∧ i < (n : Int)))
  have r2 := b2_r (decide (0 ≤ j ∧ j < (n : Int)))
  have fin : ¬ isPr n i j → fw_R mX8_at d 25 [some (.ref 18), some (.int (iI i)), some (.int (iI j))] [] w (some (.int (iI z))) w := by
    intro q
    rw [hz.2 q]
    refine fr_iconst dX8_at_25 ?_
    exact fr_iret dX8_at_26 rfl (rfl) (rfl)
  refine fw_K.of (by decide) (Nat.le_of_ble_eq_true rfl) (by simp [Value.category]) (rfl) ?_
  show fw_R _ _ 0 [some (.ref 18), some (.int (iI i)), some (.int (iI j))] [] _ _ _
  refine fr_aload_n dX8_at_0 rfl ?_
  refine fr_iload_n dX8_at_1 rfl ?_
  refine fr_callV kX8_at_2 (hpi) (by omega) h1 rfl rfl rfl ?_
  dsimp only [List.set, Option.toList, List.cons_append, List.nil_append]
  refine fr_if_eq (tgt := 25) dX8_at_5 (by decide) (by omega) (fun c1 => ?_) (fun c1 => ?_)
  · have d1 := b2_0.mp c1
    simp only [decide_eq_false_iff_not] at d1
    exact fin (fun q => d1 q.1)
  refine fr_aload_n dX8_at_8 rfl ?_
  refine fr_iload_n dX8_at_9 rfl ?_
  refine fr_callV kX8_at_10 (hpj) (by omega) h1 rfl rfl rfl ?_
  dsimp only [List.set, Option.toList, List.cons_append, List.nil_append]
  refine fr_if_eq (tgt := 25) dX8_at_13 (by decide) (by omega) (fun c2 => ?_) (fun c2 => ?_)
  · have d1 := b2_0.mp c2
    simp only [decide_eq_false_iff_not] at d1
    exact fin (fun q => d1 q.2)
  have d1 := b2_n0.mp c1
  have d2 := b2_n0.mp c2
  simp only [decide_eq_true_eq] at d1 d2
  rw [hz.1 ⟨d1, d2⟩]
  obtain ⟨p, rfl⟩ := Int.eq_ofNat_of_zero_le d1.1
  obtain ⟨q, rfl⟩ := Int.eq_ofNat_of_zero_le d2.1
  refine fr_aload_n dX8_at_16 rfl ?_
  refine fr_iload_n dX8_at_17 rfl ?_
  refine fr_iload_n dX8_at_18 rfl ?_
  refine fr_callV kX8_at_19 (c_mdist (d := 0) h (i := p) (j := q) (by omega) (by omega)) (by omega) h1 rfl rfl rfl ?_
  dsimp only [List.set, Option.toList, List.cons_append, List.nil_append]
  refine fr_goto (tgt := 26) dX8_at_22 (by decide) ?_
  exact fr_iret dX8_at_26 rfl (rfl) (rfl)
theorem c_mcount {d n : Nat} {D : Nat → Nat → Int} {A B : Int} {w : fw_S} (h : mA w n D A B) : fw_K d mX8_count [.ref 18] w (some (.int (iI n))) w := by
  have h1 := h.1
  refine fw_K.of (by decide) (Nat.le_of_ble_eq_true rfl) (by simp [Value.category]) (rfl) ?_
  show fw_R _ _ 0 [some (.ref 18)] [] _ _ _
  refine fr_aload_n dX8_count_0 rfl ?_
  refine fr_get fX8_count_1 h1 rfl ?_
  exact fr_iret dX8_count_4 rfl (rfl) (rfl)
theorem c_mparts {d z i j : Nat} {w : fw_S} (hz : z ≤ 2147483647) (hi : i < 31) (hj : j < 31) : fw_K d mX8_parts [.int (iI z), .int (iI i), .int (iI j)] w (some (.int (iI (b2 (pt z i j))))) w := by
  have bitr : ∀ k : Nat, k < 31 → iI z >>> (iI (k : Int) &&& 31) = iI ((z / 2 ^ k : Nat) : Int) ∧ iI ((z / 2 ^ k : Nat) : Int) &&& iI 1 = iI (b2 (z.testBit k)) := by
    intro k hk
    have e0 : ((z : Int) / 2 ^ k) = ((z / 2 ^ k : Nat) : Int) := by norm_cast
    have e1 : z / 2 ^ k ≤ z := Nat.div_le_self _ _
    refine ⟨?_, ?_⟩
    · rw [← e0]; exact iI_shr k (by omega) hk
    · rw [← tbit]; exact iI_andp 1 (by decide) (by omega)
  have r1 := b2_r (z.testBit i)
  have r2 := b2_r (z.testBit j)
  refine fw_K.of (by decide) (Nat.le_of_ble_eq_true rfl) (by simp [Value.category]) (rfl) ?_
  show fw_R _ _ 0 [some (.int (iI z)), some (.int (iI i)), some (.int (iI j))] [] _ _ _
  refine fr_iload_n dX8_parts_0 rfl ?_
  refine fr_iload_n dX8_parts_1 rfl ?_
  refine fr_ishr (((z / 2 ^ i : Nat) : Int)) dX8_parts_2 ((bitr i hi).1) ?_
  refine fr_iconst dX8_parts_3 ?_
  refine fr_iand (b2 (z.testBit i)) dX8_parts_4 ((bitr i hi).2) ?_
  refine fr_iload_n dX8_parts_5 rfl ?_
  refine fr_iload_n dX8_parts_6 rfl ?_
  refine fr_ishr (((z / 2 ^ j : Nat) : Int)) dX8_parts_7 ((bitr j hj).1) ?_
  refine fr_iconst dX8_parts_8 ?_
  refine fr_iand (b2 (z.testBit j)) dX8_parts_9 ((bitr j hj).2) ?_
  refine fr_icmp_eq (tgt := 17) dX8_parts_10 (by decide) (by omega) (by omega) (fun c => ?_) (fun c => ?_)
  · refine fr_iconst dX8_parts_17 ?_
    exact fr_zret dX8_parts_18 rfl (by decide) (by rw [show pt z i j = false by unfold pt; rw [b2_inj.mp c]; simp]; rfl) rfl
  · refine fr_iconst dX8_parts_13 ?_
    refine fr_goto (tgt := 18) dX8_parts_14 (by decide) ?_
    exact fr_zret dX8_parts_18 rfl (by decide) (by rw [show pt z i j = true by unfold pt; simpa using fun h => c (by rw [h])]; rfl) rfl
theorem bit_r {z k : Nat} (hz : z ≤ 2147483647) (hk : k < 31) : iI z >>> (iI (k : Int) &&& 31) = iI ((z / 2 ^ k : Nat) : Int) ∧ iI ((z / 2 ^ k : Nat) : Int) &&& iI 1 = iI (b2 (z.testBit k)) ∧ iI ((z / 2 ^ k : Nat) : Int) &&& iI 1 = iI ((z / 2 ^ k % 2 : Nat) : Int) := by
  have e0 : ((z : Int) / 2 ^ k) = ((z / 2 ^ k : Nat) : Int) := by norm_cast
  have e1 : z / 2 ^ k ≤ z := Nat.div_le_self _ _
  refine ⟨?_, ?_, ?_⟩
  · rw [← e0]; exact iI_shr k (by omega) hk
  · rw [← tbit]; exact iI_andp 1 (by decide) (by omega)
  · exact iI_andp 1 (by decide) (by omega)
theorem c_mbits {d v : Nat} {w : fw_S} (hv : v ≤ 2147483647) : fw_K d mX8_bits [.int (iI v)] w (some (.int (iI (popc v)))) w := by
  have hle : ∀ k, bitsN v k ≤ k := by
    intro k
    induction k with
    | zero => exact Nat.le_refl 0
    | succ k ih => unfold bitsN; omega
  refine fw_K.of (by decide) (Nat.le_of_ble_eq_true rfl) (by simp [Value.category]) (rfl) ?_
  show fw_R _ _ 0 [some (.int (iI v)), none, none] [] _ _ _
  refine fr_iconst dX8_bits_0 ?_
  refine fr_istore_n dX8_bits_1 rfl (by decide) rfl rfl ?_
  dsimp only [List.set, Option.toList, List.cons_append, List.nil_append]
  refine fr_iconst dX8_bits_2 ?_
  refine fr_istore_n dX8_bits_3 rfl (by decide) rfl rfl ?_
  dsimp only [List.set, Option.toList, List.cons_append, List.nil_append]
  refine up_loop (fun k => fw_R mX8_bits d 4 [some (.int (iI v)), some (.int (iI (bitsN v k))), some (.int (iI k))] [] w (some (.int (iI (popc v)))) w) 10 ?_ ?_ 0 (Nat.zero_le _)
  · refine fr_iload_n dX8_bits_4 rfl ?_
    refine fr_bipush dX8_bits_5 (by decide) ?_
    refine fr_icmp_ge (tgt := 24) dX8_bits_7 (by decide) (by omega) (by omega) (fun c => ?_) (fun c => ?_)
    · refine fr_iload_n dX8_bits_24 rfl ?_
      exact fr_iret dX8_bits_25 rfl (rfl) (rfl)
    · omega
  · intro k hk ih
    have hb := bit_r (z := v) (k := k) hv (by omega)
    have h2 := hle k
    refine fr_iload_n dX8_bits_4 rfl ?_
    refine fr_bipush dX8_bits_5 (by decide) ?_
    refine fr_icmp_ge (tgt := 24) dX8_bits_7 (by decide) (by omega) (by omega) (fun c => ?_) (fun c => ?_)
    · omega
    refine fr_iload_n dX8_bits_10 rfl ?_
    refine fr_iload_n dX8_bits_11 rfl ?_
    refine fr_iload_n dX8_bits_12 rfl ?_
    refine fr_ishr (((v / 2 ^ k : Nat) : Int)) dX8_bits_13 (hb.1) ?_
    refine fr_iconst dX8_bits_14 ?_
    refine fr_iand (((v / 2 ^ k % 2 : Nat) : Int)) dX8_bits_15 (hb.2.2) ?_
    refine fr_iadd dX8_bits_16 ?_
    refine fr_istore_n dX8_bits_17 rfl (by decide) rfl rfl ?_
    dsimp only [List.set, Option.toList, List.cons_append, List.nil_append]
    refine fr_iinc dX8_bits_18 rfl (by decide) rfl rfl ?_
    dsimp only [List.set, Option.toList, List.cons_append, List.nil_append]
    refine fr_goto (tgt := 4) dX8_bits_21 (by decide) ?_
    exact ih
theorem c_misCut {d n : Nat} {D : Nat → Nat → Int} {A B cut : Int} {w : fw_S} (hd : 1 ≤ d) (h : mA w n D A B) (hc : -2147483648 ≤ cut ∧ cut ≤ 2147483647) : fw_K d mX8_isCut [.ref 18, .int (iI cut)] w (some (.int (iI (b2 (isCut n cut))))) w := by
  have h1 := h.1
  have hn := h.2.2
  have hp := p2_le hn.2
  have hsh := iI_shl (m := 1) n (by omega) (by omega)
  rw [Nat.one_mul] at hsh
  unfold isCut
  generalize 2 ^ n = P at hp hsh ⊢
  have hin := c_in (d := 0) (w := w) (v := cut) (lo := 2) (hi := (P : Int) - 1) (by omega) (by omega) (by omega)
  have r1 := b2_r (decide (2 ≤ cut ∧ cut ≤ (P : Int) - 1))
  refine fw_K.of (by decide) (Nat.le_of_ble_eq_true rfl) (by simp [Value.category]) (rfl) ?_
  show fw_R _ _ 0 [some (.ref 18), some (.int (iI cut))] [] _ _ _
  refine fr_iload_n dX8_isCut_0 rfl ?_
  refine fr_iconst dX8_isCut_1 ?_
  refine fr_iconst dX8_isCut_2 ?_
  refine fr_aload_n dX8_isCut_3 rfl ?_
  refine fr_get fX8_isCut_4 h1 rfl ?_
  refine fr_ishl ((P : Int)) dX8_isCut_7 (hsh) ?_
  refine fr_iconst dX8_isCut_8 ?_
  refine fr_isub dX8_isCut_9 ?_
  refine fr_callS kX8_isCut_10 (hin) (by omega) rfl rfl rfl ?_
  dsimp only [List.set, Option.toList, List.cons_append, List.nil_append]
  refine fr_if_eq (tgt := 26) dX8_isCut_13 (by decide) (by omega) (fun c1 => ?_) (fun c1 => ?_)
  · have d1 := b2_0.mp c1
    simp only [decide_eq_false_iff_not] at d1
    refine fr_iconst dX8_isCut_26 ?_
    exact fr_zret dX8_isCut_27 rfl (by decide) (by rw [show decide (0 < cut ∧ cut < (P : Int) ∧ cut % 2 = 0) = false by simp only [decide_eq_false_iff_not]; omega]; rfl) (rfl)
  · have d1 := b2_n0.mp c1
    simp only [decide_eq_true_eq] at d1
    obtain ⟨m, rfl⟩ := Int.eq_ofNat_of_zero_le (show 0 ≤ cut by omega)
    have e2 : (m : Int).tmod 2 = ((m % 2 : Nat) : Int) := tm_nat m 2
    refine fr_iload_n dX8_isCut_16 rfl ?_
    refine fr_iconst dX8_isCut_17 ?_
    refine fr_irem dX8_isCut_18 (by omega) (by omega) (by omega) ?_
    rw [e2]
    refine fr_if_ne (tgt := 26) dX8_isCut_19 (by decide) (by omega) (fun c2 => ?_) (fun c2 => ?_)
    · refine fr_iconst dX8_isCut_26 ?_
      exact fr_zret dX8_isCut_27 rfl (by decide) (by rw [show decide (0 < (m : Int) ∧ (m : Int) < (P : Int) ∧ (m : Int) % 2 = 0) = false by simp only [decide_eq_false_iff_not]; omega]; rfl) (rfl)
    · refine fr_iconst dX8_isCut_22 ?_
      refine fr_goto (tgt := 27) dX8_isCut_23 (by decide) ?_
      exact fr_zret dX8_isCut_27 rfl (by decide) (by rw [show decide (0 < (m : Int) ∧ (m : Int) < (P : Int) ∧ (m : Int) % 2 = 0) = true by simp only [decide_eq_true_eq]; omega]; rfl) (rfl)
end
section
/-! the reference: laws -/
theorem c_misTwice {d : Nat} {w : fw_S} {x y z : Int} (hx : 0 ≤ x ∧ x ≤ 1000) (hy : 0 ≤ y ∧ y ≤ 1000) (hz : 0 ≤ z ∧ z ≤ 1000) : fw_K d mX8_isTwice [.int (iI x), .int (iI y), .int (iI z)] w (some (.int (iI (b2 (!alone x y z))))) w := by
  have K1 : ∀ m : Int, m = max (max x y) z → fw_R mX8_isTwice d 22 [some (.int (iI x)), some (.int (iI y)), some (.int (iI z)), some (.int (iI m))] [] w (some (.int (iI (b2 (!alone x y z))))) w := by
    intro m hm
    have fin : ∀ q : Int, 0 ≤ q ∧ q ≤ 3 → ((1 < q) ↔ alone x y z = false) → fw_R mX8_isTwice d 54 [some (.int (iI x)), some (.int (iI y)), some (.int (iI z)), some (.int (iI m))] [.int (iI q)] w (some (.int (iI (b2 (!alone x y z))))) w := by
      intro q hq hqa
      refine fr_iconst dX8_isTwice_54 ?_
      refine fr_icmp_le (tgt := 62) dX8_isTwice_55 (by decide) (by omega) (by omega) (fun c => ?_) (fun c => ?_)
      · refine fr_iconst dX8_isTwice_62 ?_
        have : alone x y z = true := by
          cases hb : alone x y z with
          | true => rfl
          | false => exact absurd (hqa.mpr hb) (by omega)
        exact fr_zret dX8_isTwice_63 rfl (by decide) (by rw [this]; rfl) (rfl)
      · refine fr_iconst dX8_isTwice_58 ?_
        refine fr_goto (tgt := 63) dX8_isTwice_59 (by decide) ?_
        exact fr_zret dX8_isTwice_63 rfl (by decide) (by rw [hqa.mp c]; rfl) (rfl)
    have ha : ∀ q : Int, (1 < q ↔ ¬ (x > max y z ∨ y > max x z ∨ z > max x y)) → (1 < q ↔ alone x y z = false) := by
      intro q hq
      unfold alone
      rw [hq, decide_eq_false_iff_not]
    refine fr_iload_n dX8_isTwice_22 rfl ?_
    refine fr_iload_n dX8_isTwice_23 rfl ?_
    refine fr_icmp_ne (tgt := 31) dX8_isTwice_24 (by decide) (by omega) (by omega) (fun c1 => ?_) (fun c1 => ?_)
    · refine fr_iconst dX8_isTwice_31 ?_
      refine fr_iload_n dX8_isTwice_32 rfl ?_
      refine fr_iload_n dX8_isTwice_33 rfl ?_
      refine fr_icmp_ne (tgt := 41) dX8_isTwice_34 (by decide) (by omega) (by omega) (fun c2 => ?_) (fun c2 => ?_)
      · refine fr_iconst dX8_isTwice_41 ?_
        refine fr_iadd dX8_isTwice_42 ?_
        refine fr_iload_n dX8_isTwice_43 rfl ?_
        refine fr_iload_n dX8_isTwice_44 rfl ?_
        refine fr_icmp_ne (tgt := 52) dX8_isTwice_45 (by decide) (by omega) (by omega) (fun c3 => ?_) (fun c3 => ?_)
        · refine fr_iconst dX8_isTwice_52 ?_
          refine fr_iadd dX8_isTwice_53 ?_
          exact fin _ (by omega) (ha _ (by omega))
        · refine fr_iconst dX8_isTwice_48 ?_
          refine fr_goto (tgt := 53) dX8_isTwice_49 (by decide) ?_
          refine fr_iadd dX8_isTwice_53 ?_
          exact fin _ (by omega) (ha _ (by omega))
      · refine fr_iconst dX8_isTwice_37 ?_
        refine fr_goto (tgt := 42) dX8_isTwice_38 (by decide) ?_
        refine fr_iadd dX8_isTwice_42 ?_
        refine fr_iload_n dX8_isTwice_43 rfl ?_
        refine fr_iload_n dX8_isTwice_44 rfl ?_
        refine fr_icmp_ne (tgt := 52) dX8_isTwice_45 (by decide) (by omega) (by omega) (fun c3 => ?_) (fun c3 => ?_)
        · refine fr_iconst dX8_isTwice_52 ?_
          refine fr_iadd dX8_isTwice_53 ?_
          exact fin _ (by omega) (ha _ (by omega))
        · refine fr_iconst dX8_isTwice_48 ?_
          refine fr_goto (tgt := 53) dX8_isTwice_49 (by decide) ?_
          refine fr_iadd dX8_isTwice_53 ?_
          exact fin _ (by omega) (ha _ (by omega))
    · refine fr_iconst dX8_isTwice_27 ?_
      refine fr_goto (tgt := 32) dX8_isTwice_28 (by decide) ?_
      refine fr_iload_n dX8_isTwice_32 rfl ?_
      refine fr_iload_n dX8_isTwice_33 rfl ?_
      refine fr_icmp_ne (tgt := 41) dX8_isTwice_34 (by decide) (by omega) (by omega) (fun c2 => ?_) (fun c2 => ?_)
      · refine fr_iconst dX8_isTwice_41 ?_
        refine fr_iadd dX8_isTwice_42 ?_
        refine fr_iload_n dX8_isTwice_43 rfl ?_
        refine fr_iload_n dX8_isTwice_44 rfl ?_
        refine fr_icmp_ne (tgt := 52) dX8_isTwice_45 (by decide) (by omega) (by omega) (fun c3 => ?_) (fun c3 => ?_)
        · refine fr_iconst dX8_isTwice_52 ?_
          refine fr_iadd dX8_isTwice_53 ?_
          exact fin _ (by omega) (ha _ (by omega))
        · refine fr_iconst dX8_isTwice_48 ?_
          refine fr_goto (tgt := 53) dX8_isTwice_49 (by decide) ?_
          refine fr_iadd dX8_isTwice_53 ?_
          exact fin _ (by omega) (ha _ (by omega))
      · refine fr_iconst dX8_isTwice_37 ?_
        refine fr_goto (tgt := 42) dX8_isTwice_38 (by decide) ?_
        refine fr_iadd dX8_isTwice_42 ?_
        refine fr_iload_n dX8_isTwice_43 rfl ?_
        refine fr_iload_n dX8_isTwice_44 rfl ?_
        refine fr_icmp_ne (tgt := 52) dX8_isTwice_45 (by decide) (by omega) (by omega) (fun c3 => ?_) (fun c3 => ?_)
        · refine fr_iconst dX8_isTwice_52 ?_
          refine fr_iadd dX8_isTwice_53 ?_
          exact fin _ (by omega) (ha _ (by omega))
        · refine fr_iconst dX8_isTwice_48 ?_
          refine fr_goto (tgt := 53) dX8_isTwice_49 (by decide) ?_
          refine fr_iadd dX8_isTwice_53 ?_
          exact fin _ (by omega) (ha _ (by omega))
  have K2 : ∀ m : Int, m = max x y → fw_R mX8_isTwice d 10 [some (.int (iI x)), some (.int (iI y)), some (.int (iI z)), none] [.int (iI m)] w (some (.int (iI (b2 (!alone x y z))))) w := by
    intro m hm
    refine fr_istore_n dX8_isTwice_10 rfl (by decide) rfl rfl ?_
    dsimp only [List.set, Option.toList, List.cons_append, List.nil_append]
    refine fr_iload_n dX8_isTwice_11 rfl ?_
    refine fr_iload_n dX8_isTwice_12 rfl ?_
    refine fr_icmp_le (tgt := 20) dX8_isTwice_13 (by decide) (by omega) (by omega) (fun c => ?_) (fun c => ?_)
    · refine fr_iload_n dX8_isTwice_20 rfl ?_
      refine fr_istore_n dX8_isTwice_21 rfl (by decide) rfl rfl ?_
      dsimp only [List.set, Option.toList, List.cons_append, List.nil_append]
      exact K1 _ (by omega)
    · refine fr_iload_n dX8_isTwice_16 rfl ?_
      refine fr_goto (tgt := 21) dX8_isTwice_17 (by decide) ?_
      refine fr_istore_n dX8_isTwice_21 rfl (by decide) rfl rfl ?_
      dsimp only [List.set, Option.toList, List.cons_append, List.nil_append]
      exact K1 _ (by omega)
  refine fw_K.of (by decide) (Nat.le_of_ble_eq_true rfl) (by simp [Value.category]) (rfl) ?_
  show fw_R _ _ 0 [some (.int (iI x)), some (.int (iI y)), some (.int (iI z)), none] [] _ _ _
  refine fr_iload_n dX8_isTwice_0 rfl ?_
  refine fr_iload_n dX8_isTwice_1 rfl ?_
  refine fr_icmp_le (tgt := 9) dX8_isTwice_2 (by decide) (by omega) (by omega) (fun c => ?_) (fun c => ?_)
  · refine fr_iload_n dX8_isTwice_9 rfl ?_
    exact K2 _ (by omega)
  · refine fr_iload_n dX8_isTwice_5 rfl ?_
    refine fr_goto (tgt := 10) dX8_isTwice_6 (by decide) ?_
    exact K2 _ (by omega)
theorem pull_le {D : Nat → Nat → Int} {n : Nat} (hD : okR n D 30) {f : Nat → Int} {q : Nat} (hq : q < n) (hf : ∀ i, -2 ≤ f i ∧ f i ≤ 2) (hn : n ≤ 6) (j : Nat) (hj : j ≤ n) : -360 ≤ pull D f q j ∧ pull D f q j ≤ 360 := by
  have := pull_r hD hq j hj (fun i _ => hf i)
  omega
theorem c_misAbove {d n x : Nat} {D : Nat → Nat → Int} {A B : Int} {w : fw_S} (hd : 1 ≤ d) (h : mA w n D A B) (hD : okR n D 30) (hx : x < 5 ^ n) : fw_K d mX8_isAbove [.ref 18, .int (iI x)] w (some (.int (iI (b2 (p3 n D x))))) w := by
  have h1 := h.1
  have hn := h.2.2
  have hx6 : x < 15625 := Nat.lt_of_lt_of_le hx (Nat.pow_le_pow_right (n := 5) (j := 6) (by decide) hn.2)
  have hsn := sumD_r n x
  have hwn := worD_r hD hn.2 n x (Nat.le_refl n)
  have outer : ∀ m : Nat, m ≤ n → ∀ r : Nat, r < 15625 → fw_R mX8_isAbove d 15 [some (.ref 18), some (.int (iI x)), some (.int (iI (sumD n x - sumD m r))), some (.int (iI (worD D n x - worD D m r))), some (.int (iI r)), some (.int (iI ((m : Int) - 1))), none, none, none] [] w (some (.int (iI (b2 (p3 n D x))))) w := by
    intro m
    induction m with
    | zero =>
      intro _ r _
      rw [show sumD 0 r = 0 from rfl, show worD D 0 r = 0 from rfl, Int.sub_zero, Int.sub_zero]
      refine fr_iload dX8_isAbove_15 rfl ?_
      refine fr_if_lt (tgt := 93) dX8_isAbove_17 (by decide) (by omega) (fun c => ?_) (fun c => ?_)
      · refine fr_iload_n dX8_isAbove_93 rfl ?_
        refine fr_iconst dX8_isAbove_94 ?_
        refine fr_icmp_ne (tgt := 106) dX8_isAbove_95 (by decide) (by omega) (by omega) (fun c1 => ?_) (fun c1 => ?_)
        · refine fr_iconst dX8_isAbove_106 ?_
          exact fr_zret dX8_isAbove_107 rfl (by decide) (by rw [show p3 n D x = false by unfold p3; simp only [decide_eq_false_iff_not]; omega]; rfl) (rfl)
        · refine fr_iload_n dX8_isAbove_98 rfl ?_
          refine fr_if_le (tgt := 106) dX8_isAbove_99 (by decide) (by omega) (fun c2 => ?_) (fun c2 => ?_)
          · refine fr_iconst dX8_isAbove_106 ?_
            exact fr_zret dX8_isAbove_107 rfl (by decide) (by rw [show p3 n D x = false by unfold p3; simp only [decide_eq_false_iff_not]; omega]; rfl) (rfl)
          · refine fr_iconst dX8_isAbove_102 ?_
            refine fr_goto (tgt := 107) dX8_isAbove_103 (by decide) ?_
            exact fr_zret dX8_isAbove_107 rfl (by decide) (by rw [show p3 n D x = true by unfold p3; simp only [decide_eq_true_eq]; omega]; rfl) (rfl)
      · omega
    | succ m ih =>
      intro hm r hr
      have ih := ih (by omega) (r / 5) (by omega)
      have e1 : (r : Int).tmod 5 = ((r % 5 : Nat) : Int) := tm_nat r 5
      have e2 : (r : Int).tdiv 5 = ((r / 5 : Nat) : Int) := td_nat r 5
      have hdg := dgt_r m (r / 5)
      have hsm := sumD_r m (r / 5)
      have hwm := worD_r hD hn.2 m (r / 5) (by omega)
      have hps := fun q (hq : q ≤ n) => pull_le hD (f := dgt m (r / 5)) (q := m) (by omega) hdg hn.2 q hq
      obtain ⟨b, hb⟩ : ∃ b : Int, b = ((r % 5 : Nat) : Int) - 2 := ⟨_, rfl⟩
      have hbr : -2 ≤ b ∧ b ≤ 2 := by omega
      rw [sumD_s, worD_s, ← hb, show ((m + 1 : Nat) : Int) - 1 = (m : Int) by omega]
      have hmm := mul_rr (x := b) (y := pull D (dgt m (r / 5)) m m) (c := 2) (e := 360) (by omega) (by omega) (hps m (by omega))
      have inner : ∀ q : Nat, q ≤ m → ∀ s : Nat, s < 15625 → (∀ i, i < q → dgt q s i = dgt m (r / 5) i) → fw_R mX8_isAbove d 49 [some (.ref 18), some (.int (iI x)), some (.int (iI (sumD n x - sumD m (r / 5)))), some (.int (iI (worD D n x - worD D m (r / 5) - b * pull D (dgt m (r / 5)) m q))), some (.int (iI ((r / 5 : Nat) : Int))), some (.int (iI m)), some (.int (iI b)), some (.int (iI s)), some (.int (iI ((q : Int) - 1)))] [] w (some (.int (iI (b2 (p3 n D x))))) w := by
        intro q
        induction q with
        | zero =>
          intro _ s _ _
          rw [show pull D (dgt m (r / 5)) m 0 = 0 from rfl, Int.mul_zero, Int.sub_zero]
          refine fr_iload dX8_isAbove_49 rfl ?_
          refine fr_if_lt (tgt := 87) dX8_isAbove_51 (by decide) (by omega) (fun c => ?_) (fun c => ?_)
          · refine fr_iinc dX8_isAbove_87 rfl (by decide) rfl rfl ?_
            dsimp only [List.set, Option.toList, List.cons_append, List.nil_append]
            refine fr_goto (tgt := 15) dX8_isAbove_90 (by decide) ?_
            rw [show (m : Int) + -1 = (m : Int) - 1 by omega]
            exact ih.wk (by simp [fw_le])
          · omega
        | succ q ihq =>
          intro hq s hs hds
          have e3 : (s : Int).tmod 5 = ((s % 5 : Nat) : Int) := tm_nat s 5
          have e4 : (s : Int).tdiv 5 = ((s / 5 : Nat) : Int) := td_nat s 5
          have e5 : ((s % 5 : Nat) : Int) - 2 = dgt m (r / 5) q := by
            have := hds q (by omega)
            rw [dgt_s, if_pos rfl] at this
            exact this
          have ihq := ihq (by omega) (s / 5) (by omega) (fun i hi => by
            have := hds i (by omega)
            rw [dgt_s, if_neg (by omega)] at this
            exact this)
          have hdq := hdg q
          have hDq := hD q m (by omega) (by omega)
          have m1 := mul_rr (x := b) (y := dgt m (r / 5) q) (c := 2) (e := 2) (by omega) (by omega) (by omega)
          have m2 := mul_r (x := b * dgt m (r / 5) q) (y := D q m) (c := 4) (e := 30) (by omega) (by omega) hDq
          have m3 := mul_rr (x := b) (y := pull D (dgt m (r / 5)) m q) (c := 2) (e := 360) (by omega) (by omega) (hps q (by omega))
          rw [show ((q + 1 : Nat) : Int) - 1 = (q : Int) by omega]
          refine fr_iload dX8_isAbove_49 rfl ?_
          refine fr_if_lt (tgt := 87) dX8_isAbove_51 (by decide) (by omega) (fun c => ?_) (fun c => ?_)
          · omega
          refine fr_iload_n dX8_isAbove_54 rfl ?_
          refine fr_iload dX8_isAbove_55 rfl ?_
          refine fr_iload dX8_isAbove_57 rfl ?_
          refine fr_iconst dX8_isAbove_59 ?_
          refine fr_irem dX8_isAbove_60 (by omega) (by omega) (by omega) ?_
          rw [e3]
          refine fr_iconst dX8_isAbove_61 ?_
          refine fr_isub dX8_isAbove_62 ?_
          rw [e5]
          refine fr_imul dX8_isAbove_63 ?_
          refine fr_aload_n dX8_isAbove_64 rfl ?_
          refine fr_iload dX8_isAbove_65 rfl ?_
          refine fr_iload dX8_isAbove_67 rfl ?_
          refine fr_callV kX8_isAbove_69 (c_mdist (d := 0) h (i := q) (j := m) (by omega) (by omega)) (by omega) h1 rfl rfl rfl ?_
          dsimp only [List.set, Option.toList, List.cons_append, List.nil_append]
          refine fr_imul dX8_isAbove_72 ?_
          refine fr_iadd dX8_isAbove_73 ?_
          refine fr_istore_n dX8_isAbove_74 rfl (by decide) rfl rfl ?_
          dsimp only [List.set, Option.toList, List.cons_append, List.nil_append]
          refine fr_iload dX8_isAbove_75 rfl ?_
          refine fr_iconst dX8_isAbove_77 ?_
          refine fr_idiv dX8_isAbove_78 (by omega) (by omega) (by omega) ?_
          rw [e4]
          refine fr_istore dX8_isAbove_79 (by decide) rfl rfl ?_
          dsimp only [List.set, Option.toList, List.cons_append, List.nil_append]
          refine fr_iinc dX8_isAbove_81 rfl (by decide) rfl rfl ?_
          dsimp only [List.set, Option.toList, List.cons_append, List.nil_append]
          refine fr_goto (tgt := 49) dX8_isAbove_84 (by decide) ?_
          rw [show worD D n x - worD D m (r / 5) - b * pull D (dgt m (r / 5)) m (q + 1) + b * dgt m (r / 5) q * D q m = worD D n x - worD D m (r / 5) - b * pull D (dgt m (r / 5)) m q by rw [pull_s, Int.mul_add, Int.mul_assoc]; omega, show (q : Int) + -1 = (q : Int) - 1 by omega]
          exact ihq
      refine fr_iload dX8_isAbove_15 rfl ?_
      refine fr_if_lt (tgt := 93) dX8_isAbove_17 (by decide) (by omega) (fun c => ?_) (fun c => ?_)
      · omega
      refine fr_iload dX8_isAbove_20 rfl ?_
      refine fr_iconst dX8_isAbove_22 ?_
      refine fr_irem dX8_isAbove_23 (by omega) (by omega) (by omega) ?_
      rw [e1]
      refine fr_iconst dX8_isAbove_24 ?_
      refine fr_isub dX8_isAbove_25 ?_
      rw [← hb]
      refine fr_istore dX8_isAbove_26 (by decide) rfl rfl ?_
      dsimp only [List.set, Option.toList, List.cons_append, List.nil_append]
      refine fr_iload dX8_isAbove_28 rfl ?_
      refine fr_iconst dX8_isAbove_30 ?_
      refine fr_idiv dX8_isAbove_31 (by omega) (by omega) (by omega) ?_
      rw [e2]
      refine fr_istore dX8_isAbove_32 (by decide) rfl rfl ?_
      dsimp only [List.set, Option.toList, List.cons_append, List.nil_append]
      refine fr_iload_n dX8_isAbove_34 rfl ?_
      refine fr_iload dX8_isAbove_35 rfl ?_
      refine fr_iadd dX8_isAbove_37 ?_
      refine fr_istore_n dX8_isAbove_38 rfl (by decide) rfl rfl ?_
      dsimp only [List.set, Option.toList, List.cons_append, List.nil_append]
      refine fr_iload dX8_isAbove_39 rfl ?_
      refine fr_istore dX8_isAbove_41 (by decide) rfl rfl ?_
      dsimp only [List.set, Option.toList, List.cons_append, List.nil_append]
      refine fr_iload dX8_isAbove_43 rfl ?_
      refine fr_iconst dX8_isAbove_45 ?_
      refine fr_isub dX8_isAbove_46 ?_
      refine fr_istore dX8_isAbove_47 (by decide) rfl rfl ?_
      dsimp only [List.set, Option.toList, List.cons_append, List.nil_append]
      have := inner m (Nat.le_refl m) (r / 5) (by omega) (fun i _ => rfl)
      rw [show sumD n x - (sumD m (r / 5) + b) + b = sumD n x - sumD m (r / 5) by omega, show worD D n x - (worD D m (r / 5) + b * pull D (dgt m (r / 5)) m m) = worD D n x - worD D m (r / 5) - b * pull D (dgt m (r / 5)) m m by omega]
      exact this
  have := outer n (Nat.le_refl n) x hx6
  rw [Int.sub_self, Int.sub_self] at this
  refine fw_K.of (by decide) (Nat.le_of_ble_eq_true rfl) (by simp [Value.category]) (rfl) ?_
  show fw_R _ _ 0 [some (.ref 18), some (.int (iI x)), none, none, none, none, none, none, none] [] _ _ _
  refine fr_iconst dX8_isAbove_0 ?_
  refine fr_istore_n dX8_isAbove_1 rfl (by decide) rfl rfl ?_
  dsimp only [List.set, Option.toList, List.cons_append, List.nil_append]
  refine fr_iconst dX8_isAbove_2 ?_
  refine fr_istore_n dX8_isAbove_3 rfl (by decide) rfl rfl ?_
  dsimp only [List.set, Option.toList, List.cons_append, List.nil_append]
  refine fr_iload_n dX8_isAbove_4 rfl ?_
  refine fr_istore dX8_isAbove_5 (by decide) rfl rfl ?_
  dsimp only [List.set, Option.toList, List.cons_append, List.nil_append]
  refine fr_aload_n dX8_isAbove_7 rfl ?_
  refine fr_get fX8_isAbove_8 h1 rfl ?_
  refine fr_iconst dX8_isAbove_11 ?_
  refine fr_isub dX8_isAbove_12 ?_
  refine fr_istore dX8_isAbove_13 (by decide) rfl rfl ?_
  dsimp only [List.set, Option.toList, List.cons_append, List.nil_append]
  exact this
theorem c_misBroken {d n law x : Nat} {D : Nat → Nat → Int} {A B : Int} {w : fw_S} (hd : 2 ≤ d) (h : mA w n D A B) (hD : okR n D 30) (hl : law ≤ 3) (hx : x < limL n law) : fw_K d mX8_isBroken [.ref 18, .int (iI law), .int (iI x)] w (some (.int (iI (b2 (bkL n D law x))))) w := by
  have h1 := h.1
  have hn := h.2.2
  have h5 : (5 : Nat) ^ n ≤ 5 ^ 6 := Nat.pow_le_pow_right (by decide) hn.2
  have hx6 : x < 15625 := by
    unfold limL at hx
    split at hx
    · exact Nat.lt_of_lt_of_le hx h5
    · split at hx <;> omega
  have e1 : (x : Int).tdiv 64 = ((x / 64 : Nat) : Int) := td_nat x 64
  have e2 : ((x / 64 : Nat) : Int).tmod 8 = ((x / 64 % 8 : Nat) : Int) := tm_nat _ 8
  have e3 : (x : Int).tdiv 8 = ((x / 8 : Nat) : Int) := td_nat x 8
  have e4 : ((x / 8 : Nat) : Int).tmod 8 = ((x / 8 % 8 : Nat) : Int) := tm_nat _ 8
  have e5 : (x : Int).tmod 8 = ((x % 8 : Nat) : Int) := tm_nat x 8
  have e6 : (x : Int).tdiv 512 = ((x / 512 : Nat) : Int) := td_nat x 512
  refine fw_K.of (by decide) (Nat.le_of_ble_eq_true rfl) (by simp [Value.category]) (rfl) ?_
  show fw_R _ _ 0 [some (.ref 18), some (.int (iI law)), some (.int (iI x)), none, none, none, none] [] _ _ _
  refine fr_iload_n dX8_isBroken_0 rfl ?_
  refine fr_bipush dX8_isBroken_1 (by decide) ?_
  refine fr_idiv dX8_isBroken_3 (by omega) (by omega) (by omega) ?_
  rw [e1]
  refine fr_bipush dX8_isBroken_4 (by decide) ?_
  refine fr_irem dX8_isBroken_6 (by omega) (by omega) (by omega) ?_
  rw [e2]
  refine fr_istore_n dX8_isBroken_7 rfl (by decide) rfl rfl ?_
  dsimp only [List.set, Option.toList, List.cons_append, List.nil_append]
  refine fr_iload_n dX8_isBroken_8 rfl ?_
  refine fr_bipush dX8_isBroken_9 (by decide) ?_
  refine fr_idiv dX8_isBroken_11 (by omega) (by omega) (by omega) ?_
  rw [e3]
  refine fr_bipush dX8_isBroken_12 (by decide) ?_
  refine fr_irem dX8_isBroken_14 (by omega) (by omega) (by omega) ?_
  rw [e4]
  refine fr_istore dX8_isBroken_15 (by decide) rfl rfl ?_
  dsimp only [List.set, Option.toList, List.cons_append, List.nil_append]
  refine fr_iload_n dX8_isBroken_17 rfl ?_
  refine fr_bipush dX8_isBroken_18 (by decide) ?_
  refine fr_irem dX8_isBroken_20 (by omega) (by omega) (by omega) ?_
  rw [e5]
  refine fr_istore dX8_isBroken_21 (by decide) rfl rfl ?_
  dsimp only [List.set, Option.toList, List.cons_append, List.nil_append]
  refine fr_iload_n dX8_isBroken_23 rfl ?_
  refine fr_iconst dX8_isBroken_24 ?_
  refine fr_icmp_ne (tgt := 34) dX8_isBroken_25 (by decide) (by omega) (by omega) (fun c3 => ?_) (fun c3 => ?_)
  rotate_left
  · have : law = 3 := by omega
    subst this
    refine fr_aload_n dX8_isBroken_28 rfl ?_
    refine fr_iload_n dX8_isBroken_29 rfl ?_
    refine fr_callV kX8_isBroken_30 (c_misAbove (d := 1) (by omega) h hD (by unfold limL at hx; exact hx)) (by omega) h1 rfl rfl rfl ?_
    dsimp only [List.set, Option.toList, List.cons_append, List.nil_append]
    exact fr_zret dX8_isBroken_33 rfl (b2_nar _) rfl rfl
  have hi8 := Nat.mod_lt (x / 64) (show 0 < 8 by decide)
  have hj8 := Nat.mod_lt (x / 8) (show 0 < 8 by decide)
  have hk8 := Nat.mod_lt x (show 0 < 8 by decide)
  refine fr_iload_n dX8_isBroken_34 rfl ?_
  refine fr_iconst dX8_isBroken_35 ?_
  refine fr_icmp_ne (tgt := 134) dX8_isBroken_36 (by decide) (by omega) (by omega) (fun c1 => ?_) (fun c1 => ?_)
  rotate_left
  · have : law = 1 := by omega
    subst this
    have hb1 : bkL n D 1 x = p1 n D x := rfl
    rw [hb1]
    have hp : p1 n D x = decide (x % 8 < n ∧ x / 512 < x / 64 % 8 ∧ x / 64 % 8 < x / 8 % 8 ∧ x / 8 % 8 < x % 8 ∧ alone (D (x / 512) (x / 64 % 8) + D (x / 8 % 8) (x % 8)) (D (x / 512) (x / 8 % 8) + D (x / 64 % 8) (x % 8)) (D (x / 512) (x % 8) + D (x / 64 % 8) (x / 8 % 8)) = true) := rfl
    have hh : x / 512 < 31 := by omega
    refine fr_iload_n dX8_isBroken_39 rfl ?_
    refine fr_sipush dX8_isBroken_40 (by decide) ?_
    refine fr_idiv dX8_isBroken_43 (by omega) (by omega) (by omega) ?_
    rw [e6]
    generalize x / 64 % 8 = i at *
    generalize x / 8 % 8 = j at *
    generalize x % 8 = k at *
    generalize x / 512 = q at *
    have no : ¬ (k < n ∧ q < i ∧ i < j ∧ j < k) → fw_R mX8_isBroken d 132 [some (.ref 18), some (.int (iI ((1 : Nat) : Int))), some (.int (iI x)), some (.int (iI i)), some (.int (iI j)), some (.int (iI k)), some (.int (iI q))] [] w (some (.int (iI (b2 (p1 n D x))))) w := by
      intro z
      rw [show p1 n D x = false by rw [hp]; simp only [decide_eq_false_iff_not]; exact fun y => z ⟨y.1, y.2.1, y.2.2.1, y.2.2.2.1⟩]
      refine fr_iconst dX8_isBroken_132 ?_
      exact fr_zret dX8_isBroken_133 rfl (by decide) (rfl) (rfl)
    refine fr_istore dX8_isBroken_44 (by decide) rfl rfl ?_
    dsimp only [List.set, Option.toList, List.cons_append, List.nil_append]
    refine fr_iload dX8_isBroken_46 rfl ?_
    refine fr_iload_n dX8_isBroken_48 rfl ?_
    refine fr_icmp_ge (tgt := 132) dX8_isBroken_49 (by decide) (by omega) (by omega) (fun c4 => ?_) (fun c4 => ?_)
    · exact no (by omega)
    refine fr_iload_n dX8_isBroken_52 rfl ?_
    refine fr_iload dX8_isBroken_53 rfl ?_
    refine fr_icmp_ge (tgt := 132) dX8_isBroken_55 (by decide) (by omega) (by omega) (fun c5 => ?_) (fun c5 => ?_)
    · exact no (by omega)
    refine fr_iload dX8_isBroken_58 rfl ?_
    refine fr_iload dX8_isBroken_60 rfl ?_
    refine fr_icmp_ge (tgt := 132) dX8_isBroken_62 (by decide) (by omega) (by omega) (fun c6 => ?_) (fun c6 => ?_)
    · exact no (by omega)
    refine fr_iload dX8_isBroken_65 rfl ?_
    refine fr_aload_n dX8_isBroken_67 rfl ?_
    refine fr_get fX8_isBroken_68 h1 rfl ?_
    refine fr_icmp_ge (tgt := 132) dX8_isBroken_71 (by decide) (by omega) (by omega) (fun c7 => ?_) (fun c7 => ?_)
    · exact no (by omega)
    have d1 := hD q i (by omega) (by omega)
    have d2 := hD j k (by omega) (by omega)
    have d3 := hD q j (by omega) (by omega)
    have d4 := hD i k (by omega) (by omega)
    have d5 := hD q k (by omega) (by omega)
    have d6 := hD i j (by omega) (by omega)
    have rb := b2_r (!alone (D q i + D j k) (D q j + D i k) (D q k + D i j))
    refine fr_aload_n dX8_isBroken_74 rfl ?_
    refine fr_iload dX8_isBroken_75 rfl ?_
    refine fr_iload_n dX8_isBroken_77 rfl ?_
    refine fr_callV kX8_isBroken_78 (c_mdist (d := 0) h (i := q) (j := i) (by omega) (by omega)) (by omega) h1 rfl rfl rfl ?_
    dsimp only [List.set, Option.toList, List.cons_append, List.nil_append]
    refine fr_aload_n dX8_isBroken_81 rfl ?_
    refine fr_iload dX8_isBroken_82 rfl ?_
    refine fr_iload dX8_isBroken_84 rfl ?_
    refine fr_callV kX8_isBroken_86 (c_mdist (d := 0) h (i := j) (j := k) (by omega) (by omega)) (by omega) h1 rfl rfl rfl ?_
    dsimp only [List.set, Option.toList, List.cons_append, List.nil_append]
    refine fr_iadd dX8_isBroken_89 ?_
    refine fr_aload_n dX8_isBroken_90 rfl ?_
    refine fr_iload dX8_isBroken_91 rfl ?_
    refine fr_iload dX8_isBroken_93 rfl ?_
    refine fr_callV kX8_isBroken_95 (c_mdist (d := 0) h (i := q) (j := j) (by omega) (by omega)) (by omega) h1 rfl rfl rfl ?_
    dsimp only [List.set, Option.toList, List.cons_append, List.nil_append]
    refine fr_aload_n dX8_isBroken_98 rfl ?_
    refine fr_iload_n dX8_isBroken_99 rfl ?_
    refine fr_iload dX8_isBroken_100 rfl ?_
    refine fr_callV kX8_isBroken_102 (c_mdist (d := 0) h (i := i) (j := k) (by omega) (by omega)) (by omega) h1 rfl rfl rfl ?_
    dsimp only [List.set, Option.toList, List.cons_append, List.nil_append]
    refine fr_iadd dX8_isBroken_105 ?_
    refine fr_aload_n dX8_isBroken_106 rfl ?_
    refine fr_iload dX8_isBroken_107 rfl ?_
    refine fr_iload dX8_isBroken_109 rfl ?_
    refine fr_callV kX8_isBroken_111 (c_mdist (d := 0) h (i := q) (j := k) (by omega) (by omega)) (by omega) h1 rfl rfl rfl ?_
    dsimp only [List.set, Option.toList, List.cons_append, List.nil_append]
    refine fr_aload_n dX8_isBroken_114 rfl ?_
    refine fr_iload_n dX8_isBroken_115 rfl ?_
    refine fr_iload dX8_isBroken_116 rfl ?_
    refine fr_callV kX8_isBroken_118 (c_mdist (d := 0) h (i := i) (j := j) (by omega) (by omega)) (by omega) h1 rfl rfl rfl ?_
    dsimp only [List.set, Option.toList, List.cons_append, List.nil_append]
    refine fr_iadd dX8_isBroken_121 ?_
    refine fr_callS kX8_isBroken_122 (c_misTwice (d := 0) (by omega) (by omega) (by omega)) (by omega) rfl rfl rfl ?_
    dsimp only [List.set, Option.toList, List.cons_append, List.nil_append]
    refine fr_if_ne (tgt := 132) dX8_isBroken_125 (by decide) (by omega) (fun c8 => ?_) (fun c8 => ?_)
    · have c9 := b2_n0.mp c8
      refine fr_iconst dX8_isBroken_132 ?_
      exact fr_zret dX8_isBroken_133 rfl (by decide) (by rw [show p1 n D x = false by rw [hp]; simp only [decide_eq_false_iff_not]; intro y; rw [y.2.2.2.2] at c9; exact absurd c9 (by decide)]; rfl) (rfl)
    · have c9 := b2_0.mp c8
      simp only [Bool.not_eq_false'] at c9
      refine fr_iconst dX8_isBroken_128 ?_
      refine fr_goto (tgt := 133) dX8_isBroken_129 (by decide) ?_
      exact fr_zret dX8_isBroken_133 rfl (by decide) (by rw [show p1 n D x = true by rw [hp]; simp only [decide_eq_true_eq]; exact ⟨by omega, by omega, by omega, by omega, c9⟩]; rfl) (rfl)
  -- laws 0 and 2
  have hb0 : law = 0 → bkL n D law x = decide (x / 64 % 8 < n ∧ x / 8 % 8 < n ∧ x % 8 < n ∧ x / 64 % 8 < x % 8 ∧ x / 8 % 8 ≠ x / 64 % 8 ∧ x / 8 % 8 ≠ x % 8 ∧ D (x / 64 % 8) (x % 8) > D (x / 64 % 8) (x / 8 % 8) + D (x / 8 % 8) (x % 8)) := fun z => by subst z; rfl
  have hb2 : law = 2 → bkL n D law x = decide (x % 8 < n ∧ x / 64 % 8 < x / 8 % 8 ∧ x / 8 % 8 < x % 8 ∧ alone (D (x / 64 % 8) (x / 8 % 8)) (D (x / 64 % 8) (x % 8)) (D (x / 8 % 8) (x % 8)) = true) := fun z => by subst z; rfl
  have hl2 : law = 0 ∨ law = 2 := by omega
  generalize bkL n D law x = q at *
  generalize x / 64 % 8 = i at *
  generalize x / 8 % 8 = j at *
  generalize x % 8 = k at *
  have no : ¬ (i < n ∧ j < n ∧ k < n) → fw_R mX8_isBroken d 160 [some (.ref 18), some (.int (iI law)), some (.int (iI x)), some (.int (iI i)), some (.int (iI j)), some (.int (iI k)), none] [] w (some (.int (iI (b2 q)))) w := by
    intro z
    have : q = false := by
      rcases hl2 with y | y
      · rw [hb0 y]; simp only [decide_eq_false_iff_not]; exact fun u => z ⟨u.1, u.2.1, u.2.2.1⟩
      · rw [hb2 y]; simp only [decide_eq_false_iff_not]; exact fun u => z ⟨by omega, by omega, u.1⟩
    rw [this]
    refine fr_iconst dX8_isBroken_160 ?_
    exact fr_zret dX8_isBroken_161 rfl (by decide) (rfl) (rfl)
  refine fr_iload_n dX8_isBroken_134 rfl ?_
  refine fr_aload_n dX8_isBroken_135 rfl ?_
  refine fr_get fX8_isBroken_136 h1 rfl ?_
  refine fr_icmp_ge (tgt := 160) dX8_isBroken_139 (by decide) (by omega) (by omega) (fun c4 => ?_) (fun c4 => ?_)
  · exact no (by omega)
  refine fr_iload dX8_isBroken_142 rfl ?_
  refine fr_aload_n dX8_isBroken_144 rfl ?_
  refine fr_get fX8_isBroken_145 h1 rfl ?_
  refine fr_icmp_ge (tgt := 160) dX8_isBroken_148 (by decide) (by omega) (by omega) (fun c5 => ?_) (fun c5 => ?_)
  · exact no (by omega)
  refine fr_iload dX8_isBroken_151 rfl ?_
  refine fr_aload_n dX8_isBroken_153 rfl ?_
  refine fr_get fX8_isBroken_154 h1 rfl ?_
  refine fr_icmp_lt (tgt := 162) dX8_isBroken_157 (by decide) (by omega) (by omega) (fun c6 => ?_) (fun c6 => ?_)
  rotate_left
  · exact no (by omega)
  have d3 := hD i j (by omega) (by omega)
  have d4 := hD i k (by omega) (by omega)
  have d6 := hD j k (by omega) (by omega)
  refine fr_iload_n dX8_isBroken_162 rfl ?_
  refine fr_if_ne (tgt := 217) dX8_isBroken_163 (by decide) (by omega) (fun c7 => ?_) (fun c7 => ?_)
  · have y : law = 2 := by omega
    have hq := hb2 y
    have no2 : ¬ (i < j ∧ j < k ∧ alone (D i j) (D i k) (D j k) = true) → fw_R mX8_isBroken d 262 [some (.ref 18), some (.int (iI law)), some (.int (iI x)), some (.int (iI i)), some (.int (iI j)), some (.int (iI k)), none] [] w (some (.int (iI (b2 q)))) w := by
      intro z
      rw [show q = false by rw [hq]; simp only [decide_eq_false_iff_not]; exact fun u => z u.2]
      refine fr_iconst dX8_isBroken_262 ?_
      exact fr_zret dX8_isBroken_263 rfl (by decide) (rfl) (rfl)
    have rb := b2_r (!alone (D i j) (D i k) (D j k))
    refine fr_iload_n dX8_isBroken_217 rfl ?_
    refine fr_iload dX8_isBroken_218 rfl ?_
    refine fr_icmp_ge (tgt := 262) dX8_isBroken_220 (by decide) (by omega) (by omega) (fun c8 => ?_) (fun c8 => ?_)
    · exact no2 (by omega)
    refine fr_iload dX8_isBroken_223 rfl ?_
    refine fr_iload dX8_isBroken_225 rfl ?_
    refine fr_icmp_ge (tgt := 262) dX8_isBroken_227 (by decide) (by omega) (by omega) (fun c9 => ?_) (fun c9 => ?_)
    · exact no2 (by omega)
    refine fr_aload_n dX8_isBroken_230 rfl ?_
    refine fr_iload_n dX8_isBroken_231 rfl ?_
    refine fr_iload dX8_isBroken_232 rfl ?_
    refine fr_callV kX8_isBroken_234 (c_mdist (d := 0) h (i := i) (j := j) (by omega) (by omega)) (by omega) h1 rfl rfl rfl ?_
    dsimp only [List.set, Option.toList, List.cons_append, List.nil_append]
    refine fr_aload_n dX8_isBroken_237 rfl ?_
    refine fr_iload_n dX8_isBroken_238 rfl ?_
    refine fr_iload dX8_isBroken_239 rfl ?_
    refine fr_callV kX8_isBroken_241 (c_mdist (d := 0) h (i := i) (j := k) (by omega) (by omega)) (by omega) h1 rfl rfl rfl ?_
    dsimp only [List.set, Option.toList, List.cons_append, List.nil_append]
    refine fr_aload_n dX8_isBroken_244 rfl ?_
    refine fr_iload dX8_isBroken_245 rfl ?_
    refine fr_iload dX8_isBroken_247 rfl ?_
    refine fr_callV kX8_isBroken_249 (c_mdist (d := 0) h (i := j) (j := k) (by omega) (by omega)) (by omega) h1 rfl rfl rfl ?_
    dsimp only [List.set, Option.toList, List.cons_append, List.nil_append]
    refine fr_callS kX8_isBroken_252 (c_misTwice (d := 0) (by omega) (by omega) (by omega)) (by omega) rfl rfl rfl ?_
    dsimp only [List.set, Option.toList, List.cons_append, List.nil_append]
    refine fr_if_ne (tgt := 262) dX8_isBroken_255 (by decide) (by omega) (fun c10 => ?_) (fun c10 => ?_)
    · have c11 := b2_n0.mp c10
      exact no2 (fun u => by rw [u.2.2] at c11; exact absurd c11 (by decide))
    · have c11 := b2_0.mp c10
      simp only [Bool.not_eq_false'] at c11
      refine fr_iconst dX8_isBroken_258 ?_
      refine fr_goto (tgt := 263) dX8_isBroken_259 (by decide) ?_
      exact fr_zret dX8_isBroken_263 rfl (by decide) (by rw [show q = true by rw [hq]; simp only [decide_eq_true_eq]; exact ⟨by omega, by omega, by omega, c11⟩]; rfl) (rfl)
  · have y : law = 0 := by omega
    have hq := hb0 y
    have no2 : ¬ (i < k ∧ j ≠ i ∧ j ≠ k ∧ D i k > D i j + D j k) → fw_R mX8_isBroken d 215 [some (.ref 18), some (.int (iI law)), some (.int (iI x)), some (.int (iI i)), some (.int (iI j)), some (.int (iI k)), none] [] w (some (.int (iI (b2 q)))) w := by
      intro z
      rw [show q = false by rw [hq]; simp only [decide_eq_false_iff_not]; exact fun u => z u.2.2.2]
      refine fr_iconst dX8_isBroken_215 ?_
      exact fr_zret dX8_isBroken_216 rfl (by decide) (rfl) (rfl)
    refine fr_iload_n dX8_isBroken_166 rfl ?_
    refine fr_iload dX8_isBroken_167 rfl ?_
    refine fr_icmp_ge (tgt := 215) dX8_isBroken_169 (by decide) (by omega) (by omega) (fun c8 => ?_) (fun c8 => ?_)
    · exact no2 (by omega)
    refine fr_iload dX8_isBroken_172 rfl ?_
    refine fr_iload_n dX8_isBroken_174 rfl ?_
    refine fr_icmp_eq (tgt := 215) dX8_isBroken_175 (by decide) (by omega) (by omega) (fun c9 => ?_) (fun c9 => ?_)
    · exact no2 (by omega)
    refine fr_iload dX8_isBroken_178 rfl ?_
    refine fr_iload dX8_isBroken_180 rfl ?_
    refine fr_icmp_eq (tgt := 215) dX8_isBroken_182 (by decide) (by omega) (by omega) (fun c10 => ?_) (fun c10 => ?_)
    · exact no2 (by omega)
    refine fr_aload_n dX8_isBroken_185 rfl ?_
    refine fr_iload_n dX8_isBroken_186 rfl ?_
    refine fr_iload dX8_isBroken_187 rfl ?_
    refine fr_callV kX8_isBroken_189 (c_mdist (d := 0) h (i := i) (j := k) (by omega) (by omega)) (by omega) h1 rfl rfl rfl ?_
    dsimp only [List.set, Option.toList, List.cons_append, List.nil_append]
    refine fr_aload_n dX8_isBroken_192 rfl ?_
    refine fr_iload_n dX8_isBroken_193 rfl ?_
    refine fr_iload dX8_isBroken_194 rfl ?_
    refine fr_callV kX8_isBroken_196 (c_mdist (d := 0) h (i := i) (j := j) (by omega) (by omega)) (by omega) h1 rfl rfl rfl ?_
    dsimp only [List.set, Option.toList, List.cons_append, List.nil_append]
    refine fr_aload_n dX8_isBroken_199 rfl ?_
    refine fr_iload dX8_isBroken_200 rfl ?_
    refine fr_iload dX8_isBroken_202 rfl ?_
    refine fr_callV kX8_isBroken_204 (c_mdist (d := 0) h (i := j) (j := k) (by omega) (by omega)) (by omega) h1 rfl rfl rfl ?_
    dsimp only [List.set, Option.toList, List.cons_append, List.nil_append]
    refine fr_iadd dX8_isBroken_207 ?_
    refine fr_icmp_le (tgt := 215) dX8_isBroken_208 (by decide) (by omega) (by omega) (fun c11 => ?_) (fun c11 => ?_)
    · exact no2 (by omega)
    · refine fr_iconst dX8_isBroken_211 ?_
      refine fr_goto (tgt := 216) dX8_isBroken_212 (by decide) ?_
      exact fr_zret dX8_isBroken_216 rfl (by decide) (by rw [show q = true by rw [hq]; simp only [decide_eq_true_eq]; exact ⟨by omega, by omega, by omega, by omega, by omega, by omega, by omega⟩]; rfl) (rfl)
theorem c_mcases {d n law : Nat} {D : Nat → Nat → Int} {A B : Int} {w : fw_S} (h : mA w n D A B) (hl : law ≤ 3) : fw_K d mX8_cases [.ref 18, .int (iI law)] w (some (.int (iI (limL n law)))) w := by
  have h1 := h.1
  have hn := h.2.2
  have hle : ∀ k : Nat, k ≤ n → 5 ^ k ≤ 15625 := fun k hk => Nat.pow_le_pow_right (n := 5) (j := 6) (by decide) (by omega)
  refine fw_K.of (by decide) (Nat.le_of_ble_eq_true rfl) (by simp [Value.category]) (rfl) ?_
  show fw_R _ _ 0 [some (.ref 18), some (.int (iI law)), none, none] [] _ _ _
  refine fr_iconst dX8_cases_0 ?_
  refine fr_istore_n dX8_cases_1 rfl (by decide) rfl rfl ?_
  dsimp only [List.set, Option.toList, List.cons_append, List.nil_append]
  refine fr_iconst dX8_cases_2 ?_
  refine fr_istore_n dX8_cases_3 rfl (by decide) rfl rfl ?_
  dsimp only [List.set, Option.toList, List.cons_append, List.nil_append]
  refine up_loop (fun k => fw_R mX8_cases d 4 [some (.ref 18), some (.int (iI law)), some (.int (iI ((5 ^ k : Nat) : Int))), some (.int (iI k))] [] w (some (.int (iI (limL n law)))) w) n ?_ ?_ 0 (Nat.zero_le _)
  · have hk := hle n (Nat.le_refl n)
    refine fr_iload_n dX8_cases_4 rfl ?_
    refine fr_aload_n dX8_cases_5 rfl ?_
    refine fr_get fX8_cases_6 h1 rfl ?_
    refine fr_icmp_ge (tgt := 22) dX8_cases_9 (by decide) (by omega) (by omega) (fun c => ?_) (fun c => ?_)
    · refine fr_iload_n dX8_cases_22 rfl ?_
      refine fr_iconst dX8_cases_23 ?_
      refine fr_icmp_ne (tgt := 31) dX8_cases_24 (by decide) (by omega) (by omega) (fun c1 => ?_) (fun c1 => ?_)
      · refine fr_iload_n dX8_cases_31 rfl ?_
        refine fr_iconst dX8_cases_32 ?_
        refine fr_icmp_ne (tgt := 42) dX8_cases_33 (by decide) (by omega) (by omega) (fun c2 => ?_) (fun c2 => ?_)
        · refine fr_sipush dX8_cases_42 (by decide) ?_
          exact fr_iret dX8_cases_45 rfl (by rw [limL, if_neg (by omega), if_neg (by omega)]; rfl) (rfl)
        · refine fr_sipush dX8_cases_36 (by decide) ?_
          refine fr_goto (tgt := 45) dX8_cases_39 (by decide) ?_
          exact fr_iret dX8_cases_45 rfl (by rw [limL, if_neg (by omega), if_pos (by omega)]; rfl) (rfl)
      · refine fr_iload_n dX8_cases_27 rfl ?_
        refine fr_goto (tgt := 45) dX8_cases_28 (by decide) ?_
        exact fr_iret dX8_cases_45 rfl (by rw [limL, if_pos (by omega)]) (rfl)
    · omega
  · intro k hk ih
    have hk5 := hle (k + 1) (by omega)
    refine fr_iload_n dX8_cases_4 rfl ?_
    refine fr_aload_n dX8_cases_5 rfl ?_
    refine fr_get fX8_cases_6 h1 rfl ?_
    refine fr_icmp_ge (tgt := 22) dX8_cases_9 (by decide) (by omega) (by omega) (fun c => ?_) (fun c => ?_)
    · omega
    refine fr_iload_n dX8_cases_12 rfl ?_
    refine fr_iconst dX8_cases_13 ?_
    refine fr_imul dX8_cases_14 ?_
    refine fr_istore_n dX8_cases_15 rfl (by decide) rfl rfl ?_
    dsimp only [List.set, Option.toList, List.cons_append, List.nil_append]
    refine fr_iinc dX8_cases_16 rfl (by decide) rfl rfl ?_
    dsimp only [List.set, Option.toList, List.cons_append, List.nil_append]
    refine fr_goto (tgt := 4) dX8_cases_19 (by decide) ?_
    rw [show ((5 ^ k : Nat) : Int) * 5 = ((5 ^ (k + 1) : Nat) : Int) by rw [Nat.pow_succ, Int.natCast_mul]; rfl]
    exact ih
theorem sc_first {p : Nat → Bool} {m : Nat} (h : ∀ k, k < m → p k = false) (hm : p m = true) : ∀ q : Nat, scF p (m + 1 + q) = (m : Int) ∧ 1 ≤ scC p (m + 1 + q)
  | 0 => by
    have := scC_0.mpr h
    rw [Nat.add_zero, scF_s, scC_s, hm, this]; simp
  | q + 1 => by
    have ih := sc_first h hm q
    rw [show m + 1 + (q + 1) = (m + 1 + q) + 1 by omega, scF_s, scC_s]
    refine ⟨?_, ?_⟩
    · rw [if_neg (fun z => by have := z.2; omega)]; exact ih.1
    · split <;> omega
theorem sc_none {p : Nat → Bool} {m : Nat} (h : ∀ k, k < m → p k = false) : scF p m = -4 := (sc_skip (p := p) (m := 0) (Nat.zero_le m) (fun k _ hk => h k hk)).1
theorem limL_r {n : Nat} (hn : n ≤ 6) (law : Nat) : limL n law ≤ 15625 := by
  have : (5 : Nat) ^ n ≤ 5 ^ 6 := Nat.pow_le_pow_right (by decide) hn
  unfold limL; split; exact this; split <;> omega
theorem c_mlaw {d n : Nat} {D : Nat → Nat → Int} {A B l : Int} {w : fw_S} (hd : 3 ≤ d) (h : mA w n D A B) (hD : okR n D 30) (hl : -2147483648 ≤ l ∧ l ≤ 2147483647) : fw_K d mX8_law [.ref 18, .int (iI l)] w (some (.int (iI (if 0 ≤ l ∧ l ≤ 3 then scF (bkL n D l.toNat) (limL n l.toNat) else -1)))) w := by
  have h1 := h.1
  have hn := h.2.2
  have hin := c_in (d := 0) (w := w) (v := l) (lo := 0) (hi := 3) hl (by omega) (by omega)
  by_cases hc : 0 ≤ l ∧ l ≤ 3
  · rw [if_pos hc]
    obtain ⟨law, rfl⟩ := Int.eq_ofNat_of_zero_le hc.1
    rw [Int.toNat_natCast]
    rw [show decide ((0 : Int) ≤ (law : Int) ∧ (law : Int) ≤ 3) = true by simp only [decide_eq_true_eq]; exact hc] at hin
    have hcs := c_mcases (d := 0) (law := law) h (by omega)
    have hlim := limL_r hn.2 law
    have hbr := fun x (hx : x < limL n law) => c_misBroken (d := 2) (law := law) (x := x) (by omega) h hD (by omega) hx
    obtain ⟨p, hp⟩ : ∃ p, p = bkL n D law := ⟨_, rfl⟩
    rw [← hp] at hbr ⊢
    generalize limL n law = P at *
    refine fw_K.of (by decide) (Nat.le_of_ble_eq_true rfl) (by simp [Value.category]) (rfl) ?_
    show fw_R _ _ 0 [some (.ref 18), some (.int (iI law)), none] [] _ _ _
    refine fr_iload_n dX8_law_0 rfl ?_
    refine fr_iconst dX8_law_1 ?_
    refine fr_iconst dX8_law_2 ?_
    refine fr_callS kX8_law_3 (hin) (by omega) rfl rfl rfl ?_
    dsimp only [List.set, Option.toList, List.cons_append, List.nil_append]
    refine fr_if_ne (tgt := 11) dX8_law_6 (by decide) (by decide) (fun c => ?_) (fun c => ?_)
    · refine fr_iconst dX8_law_11 ?_
      refine fr_istore_n dX8_law_12 rfl (by decide) rfl rfl ?_
      dsimp only [List.set, Option.toList, List.cons_append, List.nil_append]
      refine up_loop (fun x => (∀ k, k < x → p k = false) → fw_R mX8_law d 13 [some (.ref 18), some (.int (iI law)), some (.int (iI x))] [] w (some (.int (iI (scF p P)))) w) P ?_ ?_ 0 (Nat.zero_le _) (fun k hk => absurd hk (Nat.not_lt_zero k))
      · intro hall
        rw [sc_none hall]
        refine fr_iload_n dX8_law_13 rfl ?_
        refine fr_aload_n dX8_law_14 rfl ?_
        refine fr_iload_n dX8_law_15 rfl ?_
        refine fr_callV kX8_law_16 (hcs) (by omega) h1 rfl rfl rfl ?_
        dsimp only [List.set, Option.toList, List.cons_append, List.nil_append]
        refine fr_icmp_ge (tgt := 39) dX8_law_19 (by decide) (by omega) (by omega) (fun c2 => ?_) (fun c2 => ?_)
        · refine fr_bipush dX8_law_39 (by decide) ?_
          exact fr_iret dX8_law_41 rfl (rfl) (rfl)
        · omega
      · intro x hx ih hall
        have rb := b2_r (p x)
        refine fr_iload_n dX8_law_13 rfl ?_
        refine fr_aload_n dX8_law_14 rfl ?_
        refine fr_iload_n dX8_law_15 rfl ?_
        refine fr_callV kX8_law_16 (hcs) (by omega) h1 rfl rfl rfl ?_
        dsimp only [List.set, Option.toList, List.cons_append, List.nil_append]
        refine fr_icmp_ge (tgt := 39) dX8_law_19 (by decide) (by omega) (by omega) (fun c2 => ?_) (fun c2 => ?_)
        · omega
        refine fr_aload_n dX8_law_22 rfl ?_
        refine fr_iload_n dX8_law_23 rfl ?_
        refine fr_iload_n dX8_law_24 rfl ?_
        refine fr_callV kX8_law_25 (hbr x hx) (by omega) h1 rfl rfl rfl ?_
        dsimp only [List.set, Option.toList, List.cons_append, List.nil_append]
        refine fr_if_eq (tgt := 33) dX8_law_28 (by decide) (by omega) (fun c3 => ?_) (fun c3 => ?_)
        · refine fr_iinc dX8_law_33 rfl (by decide) rfl rfl ?_
          dsimp only [List.set, Option.toList, List.cons_append, List.nil_append]
          refine fr_goto (tgt := 13) dX8_law_36 (by decide) ?_
          exact ih (fun k hk => by
            by_cases e : k = x
            · subst e; exact b2_0.mp c3
            · exact hall k (by omega))
        · have := (sc_first hall (b2_n0.mp c3) (P - (x + 1))).1
          rw [show x + 1 + (P - (x + 1)) = P by omega] at this
          refine fr_iload_n dX8_law_31 rfl ?_
          exact fr_iret dX8_law_32 rfl (by rw [this]) (rfl)
    · exact absurd c (by decide)
  · rw [if_neg hc]
    rw [show decide (0 ≤ l ∧ l ≤ 3) = false by simp only [decide_eq_false_iff_not]; exact hc] at hin
    refine fw_K.of (by decide) (Nat.le_of_ble_eq_true rfl) (by simp [Value.category]) (rfl) ?_
    show fw_R _ _ 0 [some (.ref 18), some (.int (iI l)), none] [] _ _ _
    refine fr_iload_n dX8_law_0 rfl ?_
    refine fr_iconst dX8_law_1 ?_
    refine fr_iconst dX8_law_2 ?_
    refine fr_callS kX8_law_3 (hin) (by omega) rfl rfl rfl ?_
    dsimp only [List.set, Option.toList, List.cons_append, List.nil_append]
    refine fr_if_ne (tgt := 11) dX8_law_6 (by decide) (by decide) (fun c => ?_) (fun c => ?_)
    · exact absurd rfl c
    · refine fr_iconst dX8_law_9 ?_
      exact fr_iret dX8_law_10 rfl (rfl) (rfl)
theorem c_mbreaks {d n : Nat} {D : Nat → Nat → Int} {A B l : Int} {w : fw_S} (hd : 3 ≤ d) (h : mA w n D A B) (hD : okR n D 30) (hl : -2147483648 ≤ l ∧ l ≤ 2147483647) : fw_K d mX8_breaks [.ref 18, .int (iI l)] w (some (.int (iI (if 0 ≤ l ∧ l ≤ 3 then scC (bkL n D l.toNat) (limL n l.toNat) else -1)))) w := by
  have h1 := h.1
  have hn := h.2.2
  have hin := c_in (d := 0) (w := w) (v := l) (lo := 0) (hi := 3) hl (by omega) (by omega)
  by_cases hc : 0 ≤ l ∧ l ≤ 3
  · rw [if_pos hc]
    obtain ⟨law, rfl⟩ := Int.eq_ofNat_of_zero_le hc.1
    rw [Int.toNat_natCast]
    rw [show decide ((0 : Int) ≤ (law : Int) ∧ (law : Int) ≤ 3) = true by simp only [decide_eq_true_eq]; exact hc] at hin
    have hcs := c_mcases (d := 0) (law := law) h (by omega)
    have hlim := limL_r hn.2 law
    have hbr := fun x (hx : x < limL n law) => c_misBroken (d := 2) (law := law) (x := x) (by omega) h hD (by omega) hx
    obtain ⟨p, hp⟩ : ∃ p, p = bkL n D law := ⟨_, rfl⟩
    rw [← hp] at hbr ⊢
    generalize limL n law = P at *
    refine fw_K.of (by decide) (Nat.le_of_ble_eq_true rfl) (by simp [Value.category]) (rfl) ?_
    show fw_R _ _ 0 [some (.ref 18), some (.int (iI law)), none, none] [] _ _ _
    refine fr_iload_n dX8_breaks_0 rfl ?_
    refine fr_iconst dX8_breaks_1 ?_
    refine fr_iconst dX8_breaks_2 ?_
    refine fr_callS kX8_breaks_3 (hin) (by omega) rfl rfl rfl ?_
    dsimp only [List.set, Option.toList, List.cons_append, List.nil_append]
    refine fr_if_ne (tgt := 11) dX8_breaks_6 (by decide) (by decide) (fun c => ?_) (fun c => ?_)
    · refine fr_iconst dX8_breaks_11 ?_
      refine fr_istore_n dX8_breaks_12 rfl (by decide) rfl rfl ?_
      dsimp only [List.set, Option.toList, List.cons_append, List.nil_append]
      refine fr_iconst dX8_breaks_13 ?_
      refine fr_istore_n dX8_breaks_14 rfl (by decide) rfl rfl ?_
      dsimp only [List.set, Option.toList, List.cons_append, List.nil_append]
      refine up_loop (fun x => fw_R mX8_breaks d 15 [some (.ref 18), some (.int (iI law)), some (.int (iI (scC p x))), some (.int (iI x))] [] w (some (.int (iI (scC p P)))) w) P ?_ ?_ 0 (Nat.zero_le _)
      · refine fr_iload_n dX8_breaks_15 rfl ?_
        refine fr_aload_n dX8_breaks_16 rfl ?_
        refine fr_iload_n dX8_breaks_17 rfl ?_
        refine fr_callV kX8_breaks_18 (hcs) (by omega) h1 rfl rfl rfl ?_
        dsimp only [List.set, Option.toList, List.cons_append, List.nil_append]
        refine fr_icmp_ge (tgt := 47) dX8_breaks_21 (by decide) (by omega) (by omega) (fun c2 => ?_) (fun c2 => ?_)
        · refine fr_iload_n dX8_breaks_47 rfl ?_
          exact fr_iret dX8_breaks_48 rfl (rfl) (rfl)
        · omega
      · intro x hx ih
        have rb := b2_r (p x)
        rw [scC_s] at ih
        refine fr_iload_n dX8_breaks_15 rfl ?_
        refine fr_aload_n dX8_breaks_16 rfl ?_
        refine fr_iload_n dX8_breaks_17 rfl ?_
        refine fr_callV kX8_breaks_18 (hcs) (by omega) h1 rfl rfl rfl ?_
        dsimp only [List.set, Option.toList, List.cons_append, List.nil_append]
        refine fr_icmp_ge (tgt := 47) dX8_breaks_21 (by decide) (by omega) (by omega) (fun c2 => ?_) (fun c2 => ?_)
        · omega
        refine fr_iload_n dX8_breaks_24 rfl ?_
        refine fr_aload_n dX8_breaks_25 rfl ?_
        refine fr_iload_n dX8_breaks_26 rfl ?_
        refine fr_iload_n dX8_breaks_27 rfl ?_
        refine fr_callV kX8_breaks_28 (hbr x hx) (by omega) h1 rfl rfl rfl ?_
        dsimp only [List.set, Option.toList, List.cons_append, List.nil_append]
        refine fr_if_eq (tgt := 38) dX8_breaks_31 (by decide) (by omega) (fun c3 => ?_) (fun c3 => ?_)
        · rw [b2_0.mp c3, if_neg (by decide)] at ih
          refine fr_iconst dX8_breaks_38 ?_
          refine fr_iadd dX8_breaks_39 ?_
          refine fr_istore_n dX8_breaks_40 rfl (by decide) rfl rfl ?_
          dsimp only [List.set, Option.toList, List.cons_append, List.nil_append]
          refine fr_iinc dX8_breaks_41 rfl (by decide) rfl rfl ?_
          dsimp only [List.set, Option.toList, List.cons_append, List.nil_append]
          refine fr_goto (tgt := 15) dX8_breaks_44 (by decide) ?_
          exact ih
        · rw [b2_n0.mp c3, if_pos rfl] at ih
          refine fr_iconst dX8_breaks_34 ?_
          refine fr_goto (tgt := 39) dX8_breaks_35 (by decide) ?_
          refine fr_iadd dX8_breaks_39 ?_
          refine fr_istore_n dX8_breaks_40 rfl (by decide) rfl rfl ?_
          dsimp only [List.set, Option.toList, List.cons_append, List.nil_append]
          refine fr_iinc dX8_breaks_41 rfl (by decide) rfl rfl ?_
          dsimp only [List.set, Option.toList, List.cons_append, List.nil_append]
          refine fr_goto (tgt := 15) dX8_breaks_44 (by decide) ?_
          exact ih
    · exact absurd c (by decide)
  · rw [if_neg hc]
    rw [show decide (0 ≤ l ∧ l ≤ 3) = false by simp only [decide_eq_false_iff_not]; exact hc] at hin
    refine fw_K.of (by decide) (Nat.le_of_ble_eq_true rfl) (by simp [Value.category]) (rfl) ?_
    show fw_R _ _ 0 [some (.ref 18), some (.int (iI l)), none, none] [] _ _ _
    refine fr_iload_n dX8_breaks_0 rfl ?_
    refine fr_iconst dX8_breaks_1 ?_
    refine fr_iconst dX8_breaks_2 ?_
    refine fr_callS kX8_breaks_3 (hin) (by omega) rfl rfl rfl ?_
    dsimp only [List.set, Option.toList, List.cons_append, List.nil_append]
    refine fr_if_ne (tgt := 11) dX8_breaks_6 (by decide) (by decide) (fun c => ?_) (fun c => ?_)
    · exact absurd rfl c
    · refine fr_iconst dX8_breaks_9 ?_
      exact fr_iret dX8_breaks_10 rfl (rfl) (rfl)
end
