/-! Integer.bitCount, and the Choice -/
section RAW
variable {M : fw_M} {d pc : Nat} {L : List (Option Value)} {S : List Value} {w : fw_S} {r : Option Value} {w' : fw_S}
theorem fr_iaddR {x y : Int32} (hd : decode M.2.1 pc = .ok (.iadd, 1)) (k : fw_R M d (pc + 1) L (.int (x + y) :: S) w r w') : fw_R M d pc L (.int y :: .int x :: S) w r w' := by
  intro hN p l e R s m args below meth c g C H locs ls hH hS hl
  exact lv_iadd C.1 C.2.1 hd (k hN p l e R s m args below meth c g C H locs ls hH hS hl)
theorem fr_isubR {x y : Int32} (hd : decode M.2.1 pc = .ok (.isub, 1)) (k : fw_R M d (pc + 1) L (.int (x - y) :: S) w r w') : fw_R M d pc L (.int y :: .int x :: S) w r w' := by
  intro hN p l e R s m args below meth c g C H locs ls hH hS hl
  exact lv_isub C.1 C.2.1 hd (k hN p l e R s m args below meth c g C H locs ls hH hS hl)
theorem fr_iandR {x y : Int32} (hd : decode M.2.1 pc = .ok (.iand, 1)) (k : fw_R M d (pc + 1) L (.int (x &&& y) :: S) w r w') : fw_R M d pc L (.int y :: .int x :: S) w r w' := by
  intro hN p l e R s m args below meth c g C H locs ls hH hS hl
  exact lv_iand C.1 C.2.1 hd (k hN p l e R s m args below meth c g C H locs ls hH hS hl)
end RAW
def bitsN (v : Nat) : Nat → Nat
  | 0 => 0
  | k + 1 => bitsN v k + v / 2 ^ k % 2
def popc (v : Nat) : Nat := bitsN v 10
def bcu (x : Int32) (k : Int32) : Int32 := (x.toUInt32 >>> (k.toUInt32 &&& Int32.toUInt32 31)).toInt32
def bc1 (x : Int32) : Int32 := x - (bcu x (iI 1) &&& 1431655765)
def bc2 (x : Int32) : Int32 := (x &&& 858993459) + (bcu x (iI 2) &&& 858993459)
def bc3 (x : Int32) : Int32 := (x + bcu x (iI 4)) &&& 252645135
def bc4 (x : Int32) : Int32 := x + bcu x (iI 8)
def bc5 (x : Int32) : Int32 := x + bcu x (iI 16)
theorem bc_all : ∀ z : Nat, z < 64 → bc5 (bc4 (bc3 (bc2 (bc1 (iI z))))) &&& iI 63 = iI (popc z) := by decide +kernel
set_option maxRecDepth 20000 in
theorem c_bitCount {d z : Nat} {w : fw_S} (hz : z < 64) : fw_K d mJ6_bitCount_0f7a4 [.int (iI z)] w (some (.int (iI (popc z)))) w := by
  refine fw_K.of (by decide) (Nat.le_of_ble_eq_true rfl) (by simp [Value.category]) (rfl) ?_
  show fw_R _ _ 0 [some (.int (iI z))] [] _ _ _
  rw [← bc_all z hz]
  generalize iI (z : Int) = x
  refine fr_iload_n dJ6_bitCount_0f7a4_0 rfl ?_
  refine fr_iload_n dJ6_bitCount_0f7a4_1 rfl ?_
  refine fr_iconst dJ6_bitCount_0f7a4_2 ?_
  refine fr_iushr dJ6_bitCount_0f7a4_3 rfl ?_
  refine fr_ldcw dJ6_bitCount_0f7a4_4 (okm (i := 303) rfl rfl) ?_
  refine fr_iandR dJ6_bitCount_0f7a4_7 ?_
  refine fr_isubR dJ6_bitCount_0f7a4_8 ?_
  refine fr_istore_n dJ6_bitCount_0f7a4_9 rfl (by decide) rfl rfl ?_
  dsimp only [List.set, Option.toList, List.cons_append, List.nil_append]
  change fw_R _ _ _ [some (.int (bc1 x))] _ _ _ _
  generalize bc1 x = x
  refine fr_iload_n dJ6_bitCount_0f7a4_10 rfl ?_
  refine fr_ldcw dJ6_bitCount_0f7a4_11 (okm (i := 304) rfl rfl) ?_
  refine fr_iandR dJ6_bitCount_0f7a4_14 ?_
  refine fr_iload_n dJ6_bitCount_0f7a4_15 rfl ?_
  refine fr_iconst dJ6_bitCount_0f7a4_16 ?_
  refine fr_iushr dJ6_bitCount_0f7a4_17 rfl ?_
  refine fr_ldcw dJ6_bitCount_0f7a4_18 (okm (i := 304) rfl rfl) ?_
  refine fr_iandR dJ6_bitCount_0f7a4_21 ?_
  refine fr_iaddR dJ6_bitCount_0f7a4_22 ?_
  refine fr_istore_n dJ6_bitCount_0f7a4_23 rfl (by decide) rfl rfl ?_
  dsimp only [List.set, Option.toList, List.cons_append, List.nil_append]
  change fw_R _ _ _ [some (.int (bc2 x))] _ _ _ _
  generalize bc2 x = x
  refine fr_iload_n dJ6_bitCount_0f7a4_24 rfl ?_
  refine fr_iload_n dJ6_bitCount_0f7a4_25 rfl ?_
  refine fr_iconst dJ6_bitCount_0f7a4_26 ?_
  refine fr_iushr dJ6_bitCount_0f7a4_27 rfl ?_
  refine fr_iaddR dJ6_bitCount_0f7a4_28 ?_
  refine fr_ldcw dJ6_bitCount_0f7a4_29 (okm (i := 305) rfl rfl) ?_
  refine fr_iandR dJ6_bitCount_0f7a4_32 ?_
  refine fr_istore_n dJ6_bitCount_0f7a4_33 rfl (by decide) rfl rfl ?_
  dsimp only [List.set, Option.toList, List.cons_append, List.nil_append]
  change fw_R _ _ _ [some (.int (bc3 x))] _ _ _ _
  generalize bc3 x = x
  refine fr_iload_n dJ6_bitCount_0f7a4_34 rfl ?_
  refine fr_iload_n dJ6_bitCount_0f7a4_35 rfl ?_
  refine fr_bipush dJ6_bitCount_0f7a4_36 (by decide) ?_
  refine fr_iushr dJ6_bitCount_0f7a4_38 rfl ?_
  refine fr_iaddR dJ6_bitCount_0f7a4_39 ?_
  refine fr_istore_n dJ6_bitCount_0f7a4_40 rfl (by decide) rfl rfl ?_
  dsimp only [List.set, Option.toList, List.cons_append, List.nil_append]
  change fw_R _ _ _ [some (.int (bc4 x))] _ _ _ _
  generalize bc4 x = x
  refine fr_iload_n dJ6_bitCount_0f7a4_41 rfl ?_
  refine fr_iload_n dJ6_bitCount_0f7a4_42 rfl ?_
  refine fr_bipush dJ6_bitCount_0f7a4_43 (by decide) ?_
  refine fr_iushr dJ6_bitCount_0f7a4_45 rfl ?_
  refine fr_iaddR dJ6_bitCount_0f7a4_46 ?_
  refine fr_istore_n dJ6_bitCount_0f7a4_47 rfl (by decide) rfl rfl ?_
  dsimp only [List.set, Option.toList, List.cons_append, List.nil_append]
  change fw_R _ _ _ [some (.int (bc5 x))] _ _ _ _
  refine fr_iload_n dJ6_bitCount_0f7a4_48 rfl ?_
  refine fr_bipush dJ6_bitCount_0f7a4_49 (by decide) ?_
  refine fr_iandR dJ6_bitCount_0f7a4_51 ?_
  exact fr_iret dJ6_bitCount_0f7a4_52 rfl (rfl) (rfl)
theorem popc_r (z : Nat) : popc z ≤ 10 := by
  have : ∀ k, bitsN z k ≤ k := by
    intro k
    induction k with
    | zero => exact Nat.le_refl 0
    | succ k ih => unfold bitsN; omega
  exact this 10
/-- the distance of the point i to its nearest of the set, among the first j points; at most from -/
def nearW (top : Int) (D : Nat → Nat → Int) (set i : Nat) : Nat → Int
  | 0 => top
  | j + 1 => if set.testBit j = true then min (nearW top D set i j) (D i j) else nearW top D set i j
theorem nearW_s (top : Int) (D : Nat → Nat → Int) (set i j : Nat) : nearW top D set i (j + 1) = if set.testBit j = true then min (nearW top D set i j) (D i j) else nearW top D set i j := rfl
theorem nearW_r {top hi : Int} {D : Nat → Nat → Int} {n : Nat} (hD : okR n D hi) (h0 : 0 ≤ top) (set : Nat) {i : Nat} (hin : i < n) : ∀ j : Nat, j ≤ n → 0 ≤ nearW top D set i j ∧ nearW top D set i j ≤ top
  | 0, _ => by unfold nearW; omega
  | j + 1, hj => by
    have ih := nearW_r hD h0 set hin j (by omega)
    have := hD i j hin (by omega)
    rw [nearW_s]; split <;> omega
def chs (w : fw_S) (o t a n : Nat) (D : Nat → Nat → Int) : Prop := fw_g w o (.inl (0, [.ref t])) ∧ tb w t a n D
theorem c_wayToNearest {d o t a n set i : Nat} {D : Nat → Nat → Int} {w : fw_S} (hd : 1 ≤ d) (h : chs w o t a n D) (hD : okR n D 30) (hs : set < 64) (hi : i < n) : fw_K d mX0_wayToNearest [.ref o, .int (iI set), .int (iI i)] w (some (.int (iI (nearW 30 D set i n)))) w := by
  obtain ⟨h1, h2⟩ := h
  have h3 := h2.1
  have hn := h2.2.2
  refine fw_K.of (by decide) (Nat.le_of_ble_eq_true rfl) (by simp [Value.category]) (rfl) ?_
  show fw_R _ _ 0 [some (.ref o), some (.int (iI set)), some (.int (iI i)), none, none] [] _ _ _
  refine fr_bipush dX0_wayToNearest_0 (by decide) ?_
  refine fr_istore_n dX0_wayToNearest_2 rfl (by decide) rfl rfl ?_
  dsimp only [List.set, Option.toList, List.cons_append, List.nil_append]
  refine fr_iconst dX0_wayToNearest_3 ?_
  refine fr_istore dX0_wayToNearest_4 (by decide) rfl rfl ?_
  dsimp only [List.set, Option.toList, List.cons_append, List.nil_append]
  refine up_loop (fun j => fw_R mX0_wayToNearest d 6 [some (.ref o), some (.int (iI set)), some (.int (iI i)), some (.int (iI (nearW 30 D set i j))), some (.int (iI j))] [] w (some (.int (iI (nearW 30 D set i n)))) w) n ?_ ?_ 0 (Nat.zero_le _)
  · refine fr_iload dX0_wayToNearest_6 rfl ?_
    refine fr_aload_n dX0_wayToNearest_8 rfl ?_
    refine fr_get fX0_wayToNearest_9 h1 rfl ?_
    refine fr_get fX0_wayToNearest_12 h3 rfl ?_
    refine fr_icmp_ge (tgt := 48) dX0_wayToNearest_15 (by decide) (by omega) (by omega) (fun c => ?_) (fun c => ?_)
    · refine fr_iload_n dX0_wayToNearest_48 rfl ?_
      exact fr_iret dX0_wayToNearest_49 rfl (rfl) (rfl)
    · omega
  · intro j hj ih
    have r1 := b2_r (set.testBit j)
    have r2 := nearW_r hD (top := 30) (by omega) set hi j (by omega)
    have r3 := hD i j hi hj
    rw [nearW_s] at ih
    refine fr_iload dX0_wayToNearest_6 rfl ?_
    refine fr_aload_n dX0_wayToNearest_8 rfl ?_
    refine fr_get fX0_wayToNearest_9 h1 rfl ?_
    refine fr_get fX0_wayToNearest_12 h3 rfl ?_
    refine fr_icmp_ge (tgt := 48) dX0_wayToNearest_15 (by decide) (by omega) (by omega) (fun c => ?_) (fun c => ?_)
    · omega
    refine fr_iload_n dX0_wayToNearest_18 rfl ?_
    refine fr_iload dX0_wayToNearest_19 rfl ?_
    refine fr_callS kX0_wayToNearest_21 (c_holds 0 set j w (by omega) (by omega)) (by omega) rfl rfl rfl ?_
    dsimp only [List.set, Option.toList, List.cons_append, List.nil_append]
    refine fr_if_eq (tgt := 42) dX0_wayToNearest_24 (by decide) (by omega) (fun c2 => ?_) (fun c2 => ?_)
    · rw [b2_0.mp c2, if_neg (by decide)] at ih
      refine fr_iinc dX0_wayToNearest_42 rfl (by decide) rfl rfl ?_
      dsimp only [List.set, Option.toList, List.cons_append, List.nil_append]
      refine fr_goto (tgt := 6) dX0_wayToNearest_45 (by decide) ?_
      exact ih
    · rw [b2_n0.mp c2, if_pos rfl] at ih
      refine fr_iload_n dX0_wayToNearest_27 rfl ?_
      refine fr_aload_n dX0_wayToNearest_28 rfl ?_
      refine fr_get fX0_wayToNearest_29 h1 rfl ?_
      refine fr_iload_n dX0_wayToNearest_32 rfl ?_
      refine fr_iload dX0_wayToNearest_33 rfl ?_
      refine fr_callV kX0_wayToNearest_35 (c_between (d := 0) h2 hi hj) (by omega) h3 rfl rfl rfl ?_
      dsimp only [List.set, Option.toList, List.cons_append, List.nil_append]
      refine fr_min kX0_wayToNearest_38 (by omega) (by omega) rfl (by omega) ?_
      refine fr_istore_n dX0_wayToNearest_41 rfl (by decide) rfl rfl ?_
      dsimp only [List.set, Option.toList, List.cons_append, List.nil_append]
      refine fr_iinc dX0_wayToNearest_42 rfl (by decide) rfl rfl ?_
      dsimp only [List.set, Option.toList, List.cons_append, List.nil_append]
      refine fr_goto (tgt := 6) dX0_wayToNearest_45 (by decide) ?_
      exact ih
def costS (top : Int) (n : Nat) (D : Nat → Nat → Int) (set : Nat) : Nat → Int
  | 0 => 0
  | i + 1 => costS top n D set i + nearW top D set i n
def costM (top : Int) (n : Nat) (D : Nat → Nat → Int) (set : Nat) : Nat → Int
  | 0 => 0
  | i + 1 => max (costM top n D set i) (nearW top D set i n)
theorem costS_s (top : Int) (n : Nat) (D : Nat → Nat → Int) (set i : Nat) : costS top n D set (i + 1) = costS top n D set i + nearW top D set i n := rfl
theorem costM_s (top : Int) (n : Nat) (D : Nat → Nat → Int) (set i : Nat) : costM top n D set (i + 1) = max (costM top n D set i) (nearW top D set i n) := rfl
theorem cost_r {top hi : Int} {D : Nat → Nat → Int} {n : Nat} (hD : okR n D hi) (h0 : 0 ≤ top) (set : Nat) : ∀ i : Nat, i ≤ n → (0 ≤ costS top n D set i ∧ costS top n D set i ≤ top * i) ∧ (0 ≤ costM top n D set i ∧ costM top n D set i ≤ top)
  | 0, _ => by unfold costS costM; simp; exact h0
  | i + 1, hi => by
    have ih := cost_r hD h0 set i (by omega)
    have := nearW_r hD h0 set (i := i) (by omega) n (Nat.le_refl n)
    rw [costS_s, costM_s, show top * ((i + 1 : Nat) : Int) = top * i + top by rw [show ((i + 1 : Nat) : Int) = (i : Int) + 1 by omega, Int.mul_add, Int.mul_one]]
    omega
/-- what a set of centres costs: the sum (true), or the greatest -/
def costA (top : Int) (n : Nat) (D : Nat → Nat → Int) (s : Bool) (set : Nat) : Int := if s = true then costS top n D set n else costM top n D set n
theorem c_cost {d o t a n set : Nat} {D : Nat → Nat → Int} {w : fw_S} (hd : 2 ≤ d) (h : chs w o t a n D) (hD : okR n D 30) (hs : set < 64) (s : Bool) : fw_K d mX0_cost [.ref o, .int (iI set), .int (iI (b2 s))] w (some (.int (iI (costA 30 n D s set)))) w := by
  have h1 := h.1
  have h3 := h.2.1
  have hn := h.2.2.2
  refine fw_K.of (by decide) (Nat.le_of_ble_eq_true rfl) (by simp [Value.category]) (rfl) ?_
  show fw_R _ _ 0 [some (.ref o), some (.int (iI set)), some (.int (iI (b2 s))), none, none, none, none] [] _ _ _
  refine fr_iconst dX0_cost_0 ?_
  refine fr_istore_n dX0_cost_1 rfl (by decide) rfl rfl ?_
  dsimp only [List.set, Option.toList, List.cons_append, List.nil_append]
  refine fr_iconst dX0_cost_2 ?_
  refine fr_istore dX0_cost_3 (by decide) rfl rfl ?_
  dsimp only [List.set, Option.toList, List.cons_append, List.nil_append]
  refine fr_iconst dX0_cost_5 ?_
  refine fr_istore dX0_cost_6 (by decide) rfl rfl ?_
  dsimp only [List.set, Option.toList, List.cons_append, List.nil_append]
  refine up_loop (fun i => fw_R mX0_cost d 8 [some (.ref o), some (.int (iI set)), some (.int (iI (b2 s))), some (.int (iI (costS 30 n D set i))), some (.int (iI (costM 30 n D set i))), some (.int (iI i)), none] [] w (some (.int (iI (costA 30 n D s set)))) w) n ?_ ?_ 0 (Nat.zero_le _)
  · have hb := b2_r s
    refine fr_iload dX0_cost_8 rfl ?_
    refine fr_aload_n dX0_cost_10 rfl ?_
    refine fr_get fX0_cost_11 h1 rfl ?_
    refine fr_get fX0_cost_14 h3 rfl ?_
    refine fr_icmp_ge (tgt := 49) dX0_cost_17 (by decide) (by omega) (by omega) (fun c => ?_) (fun c => ?_)
    · refine fr_iload_n dX0_cost_49 rfl ?_
      refine fr_if_eq (tgt := 57) dX0_cost_50 (by decide) (by omega) (fun c2 => ?_) (fun c2 => ?_)
      · refine fr_iload dX0_cost_57 rfl ?_
        exact fr_iret dX0_cost_59 rfl (by rw [costA, b2_0.mp c2]; rfl) (rfl)
      · refine fr_iload_n dX0_cost_53 rfl ?_
        refine fr_goto (tgt := 59) dX0_cost_54 (by decide) ?_
        exact fr_iret dX0_cost_59 rfl (by rw [costA, b2_n0.mp c2]; rfl) (rfl)
    · omega
  · intro i hi ih
    have hr := cost_r hD (top := 30) (by omega) set i (by omega)
    have hw := nearW_r hD (top := 30) (by omega) set hi n (Nat.le_refl n)
    rw [costS_s, costM_s] at ih
    refine fr_iload dX0_cost_8 rfl ?_
    refine fr_aload_n dX0_cost_10 rfl ?_
    refine fr_get fX0_cost_11 h1 rfl ?_
    refine fr_get fX0_cost_14 h3 rfl ?_
    refine fr_icmp_ge (tgt := 49) dX0_cost_17 (by decide) (by omega) (by omega) (fun c => ?_) (fun c => ?_)
    · omega
    refine fr_aload_n dX0_cost_20 rfl ?_
    refine fr_iload_n dX0_cost_21 rfl ?_
    refine fr_iload dX0_cost_22 rfl ?_
    refine fr_callV kX0_cost_24 (c_wayToNearest (d := 1) (by omega) h hD hs hi) (by omega) h1 rfl rfl rfl ?_
    dsimp only [List.set, Option.toList, List.cons_append, List.nil_append]
    refine fr_istore dX0_cost_27 (by decide) rfl rfl ?_
    dsimp only [List.set, Option.toList, List.cons_append, List.nil_append]
    refine fr_iload_n dX0_cost_29 rfl ?_
    refine fr_iload dX0_cost_30 rfl ?_
    refine fr_iadd dX0_cost_32 ?_
    refine fr_istore_n dX0_cost_33 rfl (by decide) rfl rfl ?_
    dsimp only [List.set, Option.toList, List.cons_append, List.nil_append]
    refine fr_iload dX0_cost_34 rfl ?_
    refine fr_iload dX0_cost_36 rfl ?_
    refine fr_max kX0_cost_38 (by omega) (by omega) rfl (by omega) ?_
    refine fr_istore dX0_cost_41 (by decide) rfl rfl ?_
    dsimp only [List.set, Option.toList, List.cons_append, List.nil_append]
    refine fr_iinc dX0_cost_43 rfl (by decide) rfl rfl ?_
    dsimp only [List.set, Option.toList, List.cons_append, List.nil_append]
    refine fr_goto (tgt := 8) dX0_cost_46 (by decide) ?_
    exact ih.wk (by simp [fw_le])
/-- the sets below m gone through: the first of k points that costs least, and what it costs (0, 9999: none yet) -/
def cenS (top : Int) (n : Nat) (D : Nat → Nat → Int) (k : Nat) (s : Bool) : Nat → Nat × Int
  | 0 => (0, 9999)
  | m + 1 => if popc m = k ∧ costA top n D s m < (cenS top n D k s m).2 then (m, costA top n D s m) else cenS top n D k s m
theorem cenS_s (top : Int) (n : Nat) (D : Nat → Nat → Int) (k : Nat) (s : Bool) (m : Nat) : cenS top n D k s (m + 1) = if popc m = k ∧ costA top n D s m < (cenS top n D k s m).2 then (m, costA top n D s m) else cenS top n D k s m := rfl
theorem costA_r {D : Nat → Nat → Int} {n : Nat} {top hi : Int} (h0 : 0 ≤ top) (ht : top ≤ 99) (hn : n ≤ 6) (hD : okR n D hi) (s : Bool) (set : Nat) : 0 ≤ costA top n D s set ∧ costA top n D s set ≤ 600 := by
  have hr := cost_r hD h0 set n (Nat.le_refl n)
  have h2 : top * (n : Int) ≤ 99 * 6 := Int.mul_le_mul ht (by omega) (by omega) (by omega)
  unfold costA; split <;> omega
theorem cenS_r {D : Nat → Nat → Int} {n : Nat} {top hi : Int} (h0 : 0 ≤ top) (ht : top ≤ 99) (hn : n ≤ 6) (hD : okR n D hi) {k : Nat} (hk : 1 ≤ k) (s : Bool) : ∀ m : Nat, ((cenS top n D k s m).1 = 0 ∧ (cenS top n D k s m).2 = 9999) ∨ (1 ≤ (cenS top n D k s m).1 ∧ (cenS top n D k s m).1 < m ∧ (cenS top n D k s m).2 = costA top n D s (cenS top n D k s m).1)
  | 0 => Or.inl ⟨rfl, rfl⟩
  | m + 1 => by
    have ih := cenS_r h0 ht hn hD hk s m
    rw [cenS_s]
    split
    next h =>
      have : m ≠ 0 := by
        intro q; subst q
        have h3 : popc 0 = 0 := by decide
        omega
      exact Or.inr ⟨by simp; omega, by simp, rfl⟩
    next h =>
      rcases ih with h1 | h1
      · exact Or.inl h1
      · exact Or.inr ⟨h1.1, by omega, h1.2.2⟩
theorem c_nearest {d o t a n k : Nat} {D : Nat → Nat → Int} {w : fw_S} (hd : 3 ≤ d) (h : chs w o t a n D) (hD : okR n D 30) (hk : 1 ≤ k ∧ k ≤ n) (s : Bool) : fw_K d mX0_nearest [.ref o, .int (iI k), .int (iI (b2 s))] w (some (.int (iI (cenS 30 n D k s (2 ^ n)).1))) w := by
  have h1 := h.1
  have h3 := h.2.1
  have hn := h.2.2.2
  have hp := p2_le hn.2
  have hp1 : 1 ≤ 2 ^ n := Nat.one_le_two_pow
  have hsh := iI_shl (m := 1) n (by omega) (by omega)
  rw [Nat.one_mul] at hsh
  generalize 2 ^ n = P at hp hp1 hsh ⊢
  refine fw_K.of (by decide) (Nat.le_of_ble_eq_true rfl) (by simp [Value.category]) (rfl) ?_
  show fw_R _ _ 0 [some (.ref o), some (.int (iI k)), some (.int (iI (b2 s))), none, none, none, none] [] _ _ _
  refine fr_iconst dX0_nearest_0 ?_
  refine fr_istore_n dX0_nearest_1 rfl (by decide) rfl rfl ?_
  dsimp only [List.set, Option.toList, List.cons_append, List.nil_append]
  refine fr_iconst dX0_nearest_2 ?_
  refine fr_istore dX0_nearest_3 (by decide) rfl rfl ?_
  dsimp only [List.set, Option.toList, List.cons_append, List.nil_append]
  refine fr_iconst dX0_nearest_5 ?_
  refine fr_istore dX0_nearest_6 (by decide) rfl rfl ?_
  dsimp only [List.set, Option.toList, List.cons_append, List.nil_append]
  have main := up_loop (fun m => 1 ≤ m → fw_R mX0_nearest d 8 [some (.ref o), some (.int (iI k)), some (.int (iI (b2 s))), some (.int (iI (cenS 30 n D k s m).1)), some (.int (iI (if (cenS 30 n D k s m).1 = 0 then 0 else (cenS 30 n D k s m).2))), some (.int (iI m)), none] [] w (some (.int (iI (cenS 30 n D k s P).1))) w) P ?_ ?_ 1 hp1 (Nat.le_refl 1)
  · have e0 : cenS 30 n D k s 1 = (0, 9999) := by
      rw [cenS_s, if_neg (fun z => by have h3 : popc 0 = 0 := by decide
                                      have := z.1; omega)]
      rfl
    rw [e0] at main
    exact main
  · intro _
    refine fr_iload dX0_nearest_8 rfl ?_
    refine fr_iconst dX0_nearest_10 ?_
    refine fr_aload_n dX0_nearest_11 rfl ?_
    refine fr_get fX0_nearest_12 h1 rfl ?_
    refine fr_get fX0_nearest_15 h3 rfl ?_
    refine fr_ishl ((P : Int)) dX0_nearest_18 (hsh) ?_
    refine fr_icmp_ge (tgt := 64) dX0_nearest_19 (by decide) (by omega) (by omega) (fun c => ?_) (fun c => ?_)
    · refine fr_iload_n dX0_nearest_64 rfl ?_
      exact fr_iret dX0_nearest_65 rfl (rfl) (rfl)
    · omega
  · intro m hm ih hm1
    have ih := ih (by omega)
    have hcr := cenS_r (top := 30) (by omega) (by omega) hn.2 hD hk.1 s m
    have hco := costA_r (top := 30) (by omega) (by omega) hn.2 hD s m
    have hco2 := costA_r (top := 30) (by omega) (by omega) hn.2 hD s (cenS 30 n D k s m).1
    have hpc := popc_r m
    rw [cenS_s] at ih
    have skip : ¬ (popc m = k ∧ costA 30 n D s m < (cenS 30 n D k s m).2) → ∀ x6, fw_R mX0_nearest d 58 [some (.ref o), some (.int (iI k)), some (.int (iI (b2 s))), some (.int (iI (cenS 30 n D k s m).1)), some (.int (iI (if (cenS 30 n D k s m).1 = 0 then 0 else (cenS 30 n D k s m).2))), some (.int (iI m)), x6] [] w (some (.int (iI (cenS 30 n D k s P).1))) w := by
      intro hno x6
      rw [if_neg hno] at ih
      refine fr_iinc dX0_nearest_58 rfl (by decide) rfl rfl ?_
      dsimp only [List.set, Option.toList, List.cons_append, List.nil_append]
      refine fr_goto (tgt := 8) dX0_nearest_61 (by decide) ?_
      exact ih.wk (by simp [fw_le])
    have take : (popc m = k ∧ costA 30 n D s m < (cenS 30 n D k s m).2) → fw_R mX0_nearest d 51 [some (.ref o), some (.int (iI k)), some (.int (iI (b2 s))), some (.int (iI (cenS 30 n D k s m).1)), some (.int (iI (if (cenS 30 n D k s m).1 = 0 then 0 else (cenS 30 n D k s m).2))), some (.int (iI m)), some (.int (iI (costA 30 n D s m)))] [] w (some (.int (iI (cenS 30 n D k s P).1))) w := by
      intro hyes
      rw [if_pos hyes] at ih
      rw [if_neg (show ¬ (m, costA 30 n D s m).1 = 0 by simp; omega)] at ih
      refine fr_iload dX0_nearest_51 rfl ?_
      refine fr_istore_n dX0_nearest_53 rfl (by decide) rfl rfl ?_
      dsimp only [List.set, Option.toList, List.cons_append, List.nil_append]
      refine fr_iload dX0_nearest_54 rfl ?_
      refine fr_istore dX0_nearest_56 (by decide) rfl rfl ?_
      dsimp only [List.set, Option.toList, List.cons_append, List.nil_append]
      refine fr_iinc dX0_nearest_58 rfl (by decide) rfl rfl ?_
      dsimp only [List.set, Option.toList, List.cons_append, List.nil_append]
      refine fr_goto (tgt := 8) dX0_nearest_61 (by decide) ?_
      exact ih.wk (by simp [fw_le])
    refine fr_iload dX0_nearest_8 rfl ?_
    refine fr_iconst dX0_nearest_10 ?_
    refine fr_aload_n dX0_nearest_11 rfl ?_
    refine fr_get fX0_nearest_12 h1 rfl ?_
    refine fr_get fX0_nearest_15 h3 rfl ?_
    refine fr_ishl ((P : Int)) dX0_nearest_18 (hsh) ?_
    refine fr_icmp_ge (tgt := 64) dX0_nearest_19 (by decide) (by omega) (by omega) (fun c => ?_) (fun c => ?_)
    · omega
    refine fr_iload dX0_nearest_22 rfl ?_
    refine fr_callS kX0_nearest_24 (c_bitCount (d := 0) (by omega)) (by omega) rfl rfl rfl ?_
    dsimp only [List.set, Option.toList, List.cons_append, List.nil_append]
    refine fr_iload_n dX0_nearest_27 rfl ?_
    refine fr_icmp_ne (tgt := 58) dX0_nearest_28 (by decide) (by omega) (by omega) (fun c2 => ?_) (fun c2 => ?_)
    · exact skip (fun z => c2 (by have := z.1; omega)) _
    · refine fr_aload_n dX0_nearest_31 rfl ?_
      refine fr_iload dX0_nearest_32 rfl ?_
      refine fr_iload_n dX0_nearest_34 rfl ?_
      refine fr_callV kX0_nearest_35 (c_cost (d := 2) (by omega) h hD (by omega) s) (by omega) h1 rfl rfl rfl ?_
      dsimp only [List.set, Option.toList, List.cons_append, List.nil_append]
      refine fr_istore dX0_nearest_38 (by decide) rfl rfl ?_
      dsimp only [List.set, Option.toList, List.cons_append, List.nil_append]
      refine fr_iload_n dX0_nearest_40 rfl ?_
      refine fr_if_eq (tgt := 51) dX0_nearest_41 (by decide) (by omega) (fun c3 => ?_) (fun c3 => ?_)
      · exact take ⟨by omega, by omega⟩
      · rw [if_neg (by omega)]
        refine fr_iload dX0_nearest_44 rfl ?_
        refine fr_iload dX0_nearest_46 rfl ?_
        refine fr_icmp_ge (tgt := 58) dX0_nearest_48 (by decide) (by omega) (by omega) (fun c4 => ?_) (fun c4 => ?_)
        · have := skip (fun z => by have := z.2; omega) (some (.int (iI (costA 30 n D s m))))
          rw [if_neg (by omega)] at this
          exact this
        · have := take ⟨by omega, by omega⟩
          rw [if_neg (by omega)] at this
          exact this
