/-! FewWays's holds and parts, and the Table's methods -/
def b2 (b : Bool) : Int := if b then 1 else 0
theorem b2_0 {b : Bool} : b2 b = 0 ↔ b = false := by cases b <;> simp [b2]
theorem b2_n0 {b : Bool} : b2 b ≠ 0 ↔ b = true := by cases b <;> simp [b2]
theorem b2_r (b : Bool) : 0 ≤ b2 b ∧ b2 b ≤ 1 := by cases b <;> simp [b2]
theorem b2_inj {a b : Bool} : b2 a = b2 b ↔ a = b := by cases a <;> cases b <;> simp [b2]
theorem b2_nar (b : Bool) : narrow .boolean (.int (iI (b2 b))) = .int (iI (b2 b)) := by cases b <;> decide
theorem up_loop (P : Nat → Prop) (n : Nat) (hend : P n) (hstep : ∀ j, j < n → P (j + 1) → P j) : ∀ j, j ≤ n → P j := by
  intro j hj
  obtain ⟨k, rfl⟩ : ∃ k, n = j + k := ⟨n - j, by omega⟩
  clear hj
  induction k generalizing j with
  | zero => exact hend
  | succ k ih => exact hstep j (by omega) (ih (j + 1) (by rw [show j + 1 + k = j + (k + 1) by omega]; exact hend) (fun i hi => hstep i (by omega)))
theorem iI_shr {z : Int} (k : Nat) (hz : 0 ≤ z ∧ z ≤ 2147483647) (hk : k < 31) : iI z >>> (iI k &&& 31) = iI (z / 2 ^ k) := by
  obtain ⟨m, rfl⟩ := Int.eq_ofNat_of_zero_le hz.1
  have e1 : (iI k &&& 31) = nI k := by
    rw [iI_nat]
    have h2 := pk_andN (n := k) (by omega) (m := 31) 5 (by decide)
    rw [h2, Nat.mod_eq_of_lt (by omega)]
  rw [iI_nat, e1]
  have h3 := pk_shrN (n := m) (by omega) (nI k) k (by
    revert hk; clear e1; revert k
    decide +kernel)
  rw [h3, show ((m : Int) / 2 ^ k) = ((m / 2 ^ k : Nat) : Int) by norm_cast, iI_nat]
theorem iI_shl {m : Nat} (k : Nat) (hm : m * 2 ^ k ≤ 2147483647) (hk : k < 31) : iI m <<< (iI k &&& 31) = iI ((m * 2 ^ k : Nat) : Int) := by
  have e1 : (iI k &&& 31) = nI k := by
    rw [iI_nat]
    have h2 := pk_andN (n := k) (by omega) (m := 31) 5 (by decide)
    rw [h2, Nat.mod_eq_of_lt (by omega)]
  rw [iI_nat, e1]
  have h3 := pk_shlN (n := m) (nI k) k (by
    clear hm e1
    revert hk; revert k
    decide +kernel) (by omega)
  rw [h3, iI_nat]
theorem iI_andp {m : Nat} (k : Nat) (hk : k ≤ 30) (hm : m ≤ 2147483647) : iI m &&& iI ((2 ^ k - 1 : Nat) : Int) = iI ((m % 2 ^ k : Nat) : Int) := by
  have hp : 2 ^ k ≤ 2 ^ 30 := Nat.pow_le_pow_right (by decide) hk
  have h1 : 1 ≤ 2 ^ k := Nat.one_le_two_pow
  rw [iI_nat, iI_nat]
  have h2 := pk_andN (n := m) (by omega) (m := nI (2 ^ k - 1)) k (by rw [pk_tn (by omega)])
  rw [h2, iI_nat]
theorem tbit (z k : Nat) : ((z / 2 ^ k % 2 : Nat) : Int) = b2 (z.testBit k) := by
  rw [Nat.testBit_eq_decide_div_mod_eq]
  rcases Nat.mod_two_eq_zero_or_one (z / 2 ^ k) with h | h <;> simp [b2, h]
theorem c_holds (d z k : Nat) (w : fw_S) (hz : z ≤ 2147483647) (hk : k < 31) : fw_K d mX7_holds [.int (iI z), .int (iI k)] w (some (.int (iI (b2 (z.testBit k))))) w := by
  refine fw_K.of (by decide) (Nat.le_of_ble_eq_true rfl) (by simp [Value.category]) (rfl) ?_
  show fw_R _ _ 0 [some (.int (iI z)), some (.int (iI k))] [] _ _ _
  refine fr_iload_n dX7_holds_0 rfl ?_
  refine fr_iload_n dX7_holds_1 rfl ?_
  refine fr_ishr ((z : Int) / 2 ^ k) dX7_holds_2 (iI_shr k (by omega) hk) ?_
  refine fr_iconst dX7_holds_3 ?_
  have e0 : ((z : Int) / 2 ^ k) = ((z / 2 ^ k : Nat) : Int) := by norm_cast
  have e1 : z / 2 ^ k ≤ z := Nat.div_le_self _ _
  rw [e0]
  refine fr_iand (b2 (z.testBit k)) dX7_holds_4 ?_ ?_
  · rw [← tbit]; exact iI_andp 1 (by decide) (by omega)
  refine fr_iconst dX7_holds_5 ?_
  have h01 := b2_r (z.testBit k)
  refine fr_icmp_ne (tgt := 13) dX7_holds_6 (by decide) (by omega) (by omega) (fun c => ?_) (fun c => ?_)
  · refine fr_iconst dX7_holds_13 ?_
    exact fr_zret dX7_holds_14 rfl (by decide) (by rw [show b2 (z.testBit k) = 0 by omega]) rfl
  · refine fr_iconst dX7_holds_9 ?_
    refine fr_goto (tgt := 14) dX7_holds_10 (by decide) ?_
    exact fr_zret dX7_holds_14 rfl (by decide) (by rw [c]) rfl
def pt (z i j : Nat) : Bool := z.testBit i != z.testBit j
theorem c_parts (d z i j : Nat) (w : fw_S) (hd : 1 ≤ d) (hz : z ≤ 2147483647) (hi : i < 31) (hj : j < 31) : fw_K d mX7_parts [.int (iI z), .int (iI i), .int (iI j)] w (some (.int (iI (b2 (pt z i j))))) w := by
  refine fw_K.of (by decide) (Nat.le_of_ble_eq_true rfl) (by simp [Value.category]) (rfl) ?_
  show fw_R _ _ 0 [some (.int (iI z)), some (.int (iI i)), some (.int (iI j))] [] _ _ _
  have r1 := b2_r (z.testBit i)
  have r2 := b2_r (z.testBit j)
  refine fr_iload_n dX7_parts_0 rfl ?_
  refine fr_iload_n dX7_parts_1 rfl ?_
  refine fr_callS kX7_parts_2 (c_holds 0 z i w hz hi) (by omega) rfl rfl rfl ?_
  dsimp only [List.set, Option.toList, List.cons_append, List.nil_append]
  refine fr_iload_n dX7_parts_5 rfl ?_
  refine fr_iload_n dX7_parts_6 rfl ?_
  refine fr_callS kX7_parts_7 (c_holds 0 z j w hz hj) (by omega) rfl rfl rfl ?_
  dsimp only [List.set, Option.toList, List.cons_append, List.nil_append]
  refine fr_icmp_eq (tgt := 17) dX7_parts_10 (by decide) (by omega) (by omega) (fun c => ?_) (fun c => ?_)
  · refine fr_iconst dX7_parts_17 ?_
    exact fr_zret dX7_parts_18 rfl (by decide) (by rw [show pt z i j = false by unfold pt; rw [b2_inj.mp c]; simp]; rfl) rfl
  · refine fr_iconst dX7_parts_13 ?_
    refine fr_goto (tgt := 18) dX7_parts_14 (by decide) ?_
    exact fr_zret dX7_parts_18 rfl (by decide) (by rw [show pt z i j = true by unfold pt; simpa using fun h => c (by rw [h])]; rfl) rfl
/-- o is a Table of n points whose distances are D, its cells at a -/
def tb (w : fw_S) (o a n : Nat) (D : Nat → Nat → Int) : Prop := fw_g w o (.inl (6, [.ref a, .int (iI n)])) ∧ (∃ f, fw_g w a (.inr (36, .inl f)) ∧ ∀ i j, i < n → j < n → f (6 * i + j) = D i j) ∧ 2 ≤ n ∧ n ≤ 6
theorem c_between {d o a n : Nat} {D : Nat → Nat → Int} {w : fw_S} (h : tb w o a n D) {i j : Nat} (hi : i < n) (hj : j < n) : fw_K d mX6_between [.ref o, .int (iI i), .int (iI j)] w (some (.int (iI (D i j)))) w := by
  obtain ⟨h1, ⟨f, h2, h3⟩, h4, h5⟩ := h
  refine fw_K.of (by decide) (Nat.le_of_ble_eq_true rfl) (by simp [Value.category]) (rfl) ?_
  show fw_R _ _ 0 [some (.ref o), some (.int (iI i)), some (.int (iI j))] [] _ _ _
  refine fr_aload_n dX6_between_0 rfl ?_
  refine fr_get fX6_between_1 h1 rfl ?_
  refine fr_iload_n dX6_between_4 rfl ?_
  refine fr_bipush dX6_between_5 (by decide) ?_
  refine fr_imul dX6_between_7 ?_
  refine fr_iload_n dX6_between_8 rfl ?_
  refine fr_iadd dX6_between_9 ?_
  refine fr_iald (6 * i + j) dX6_between_10 h2 (by omega) (by omega) (by decide) ?_
  rw [h3 i j hi hj]
  exact fr_iret dX6_between_11 rfl (rfl) (rfl)
theorem c_hasPoint {d o a n : Nat} {D : Nat → Nat → Int} {w : fw_S} (h : tb w o a n D) {i : Int} (hi : -2147483648 ≤ i ∧ i ≤ 2147483647) : fw_K d mX6_hasPoint [.ref o, .int (iI i)] w (some (.int (iI (b2 (decide (0 ≤ i ∧ i < n)))))) w := by
  obtain ⟨h1, ⟨f, h2, h3⟩, h4, h5⟩ := h
  refine fw_K.of (by decide) (Nat.le_of_ble_eq_true rfl) (by simp [Value.category]) (rfl) ?_
  show fw_R _ _ 0 [some (.ref o), some (.int (iI i))] [] _ _ _
  refine fr_iload_n dX6_hasPoint_0 rfl ?_
  refine fr_if_lt (tgt := 16) dX6_hasPoint_1 (by decide) (by omega) (fun c => ?_) (fun c => ?_)
  · refine fr_iconst dX6_hasPoint_16 ?_
    exact fr_zret dX6_hasPoint_17 rfl (by decide) (by rw [show decide (0 ≤ i ∧ i < (n : Int)) = false by simp; omega]; rfl) (rfl)
  · refine fr_iload_n dX6_hasPoint_4 rfl ?_
    refine fr_aload_n dX6_hasPoint_5 rfl ?_
    refine fr_get fX6_hasPoint_6 h1 rfl ?_
    refine fr_icmp_ge (tgt := 16) dX6_hasPoint_9 (by decide) (by omega) (by omega) (fun c2 => ?_) (fun c2 => ?_)
    · refine fr_iconst dX6_hasPoint_16 ?_
      exact fr_zret dX6_hasPoint_17 rfl (by decide) (by rw [show decide (0 ≤ i ∧ i < (n : Int)) = false by simp; omega]; rfl) (rfl)
    · refine fr_iconst dX6_hasPoint_12 ?_
      refine fr_goto (tgt := 17) dX6_hasPoint_13 (by decide) ?_
      exact fr_zret dX6_hasPoint_17 rfl (by decide) (by rw [show decide (0 ≤ i ∧ i < (n : Int)) = true by simp; omega]; rfl) (rfl)
theorem c_hasPair {d o a n : Nat} {D : Nat → Nat → Int} {w : fw_S} (hd : 1 ≤ d) (h : tb w o a n D) {i j : Int} (hi : -2147483648 ≤ i ∧ i ≤ 2147483647) (hj : -2147483648 ≤ j ∧ j ≤ 2147483647) : fw_K d mX6_hasPair [.ref o, .int (iI i), .int (iI j)] w (some (.int (iI (b2 (decide ((0 ≤ i ∧ i < n) ∧ (0 ≤ j ∧ j < n))))))) w := by
  have h1 := h.1
  refine fw_K.of (by decide) (Nat.le_of_ble_eq_true rfl) (by simp [Value.category]) (rfl) ?_
  show fw_R _ _ 0 [some (.ref o), some (.int (iI i)), some (.int (iI j))] [] _ _ _
  have r1 := b2_r (decide (0 ≤ i ∧ i < (n : Int)))
  have r2 := b2_r (decide (0 ≤ j ∧ j < (n : Int)))
  refine fr_aload_n dX6_hasPair_0 rfl ?_
  refine fr_iload_n dX6_hasPair_1 rfl ?_
  refine fr_callV kX6_hasPair_2 (c_hasPoint (d := 0) h hi) (by omega) h1 rfl rfl rfl ?_
  dsimp only [List.set, Option.toList, List.cons_append, List.nil_append]
  refine fr_if_eq (tgt := 20) dX6_hasPair_5 (by decide) (by omega) (fun c => ?_) (fun c => ?_)
  · have c' := b2_0.mp c
    refine fr_iconst dX6_hasPair_20 ?_
    exact fr_zret dX6_hasPair_21 rfl (by decide) (by rw [show decide ((0 ≤ i ∧ i < (n : Int)) ∧ (0 ≤ j ∧ j < (n : Int))) = false by simp only [decide_eq_false_iff_not] at c' ⊢; omega]; rfl) (rfl)
  · have c' := b2_n0.mp c
    refine fr_aload_n dX6_hasPair_8 rfl ?_
    refine fr_iload_n dX6_hasPair_9 rfl ?_
    refine fr_callV kX6_hasPair_10 (c_hasPoint (d := 0) h hj) (by omega) h1 rfl rfl rfl ?_
    dsimp only [List.set, Option.toList, List.cons_append, List.nil_append]
    refine fr_if_eq (tgt := 20) dX6_hasPair_13 (by decide) (by omega) (fun e => ?_) (fun e => ?_)
    · have e' := b2_0.mp e
      refine fr_iconst dX6_hasPair_20 ?_
      exact fr_zret dX6_hasPair_21 rfl (by decide) (by rw [show decide ((0 ≤ i ∧ i < (n : Int)) ∧ (0 ≤ j ∧ j < (n : Int))) = false by simp only [decide_eq_false_iff_not, decide_eq_true_eq] at c' e' ⊢; omega]; rfl) (rfl)
    · have e' := b2_n0.mp e
      refine fr_iconst dX6_hasPair_16 ?_
      refine fr_goto (tgt := 21) dX6_hasPair_17 (by decide) ?_
      exact fr_zret dX6_hasPair_21 rfl (by decide) (by rw [show decide ((0 ≤ i ∧ i < (n : Int)) ∧ (0 ≤ j ∧ j < (n : Int))) = true by simp only [decide_eq_true_eq] at c' e' ⊢; omega]; rfl) (rfl)
