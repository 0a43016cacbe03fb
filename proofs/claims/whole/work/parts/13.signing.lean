/-! numbers and signs -/
def sumS (num : Nat → Int) (row : Nat) : Nat → Int
  | 0 => 0
  | c + 1 => sumS num row c + (if row.testBit c = true then -(num c) else num c)
theorem sumS_s (num : Nat → Int) (row c : Nat) : sumS num row (c + 1) = sumS num row c + (if row.testBit c = true then -(num c) else num c) := rfl
def okN (num : Nat → Int) : Prop := ∀ i, i < 10 → -1000 ≤ num i ∧ num i ≤ 1000
theorem sumS_r {num : Nat → Int} (h : okN num) (row : Nat) : ∀ c : Nat, c ≤ 10 → -(1000 * (c : Int)) ≤ sumS num row c ∧ sumS num row c ≤ 1000 * (c : Int)
  | 0, _ => by simp [sumS]
  | c + 1, hc => by
    have ih := sumS_r h row c (by omega)
    have h1 := h c (by omega)
    unfold sumS
    split <;> omega
/-- the size of the sum of the first c numbers with these signs -/
def szS (num : Nat → Int) (c row : Nat) : Int := ((sumS num row c).natAbs : Int)
theorem szS_r {num : Nat → Int} (h : okN num) (row c : Nat) (hc : c ≤ 10) : 0 ≤ szS num c row ∧ szS num c row ≤ 10000 := by
  have := sumS_r h row c hc
  unfold szS; omega
/-- how many rows below m make a sum of size t at most -/
def cntS (num : Nat → Int) (c : Nat) (t : Int) : Nat → Int
  | 0 => 0
  | m + 1 => cntS num c t m + (if szS num c m ≤ t then 1 else 0)
theorem cntS_s (num : Nat → Int) (c : Nat) (t : Int) (m : Nat) : cntS num c t (m + 1) = cntS num c t m + (if szS num c m ≤ t then 1 else 0) := rfl
theorem cntS_r (num : Nat → Int) (c : Nat) (t : Int) : ∀ m : Nat, 0 ≤ cntS num c t m ∧ cntS num c t m ≤ m
  | 0 => by simp [cntS]
  | m + 1 => by
    have := cntS_r num c t m
    unfold cntS; split <;> omega
/-- of the rows 0 to m the first with the least size -/
def bstS (num : Nat → Int) (c : Nat) : Nat → Nat
  | 0 => 0
  | m + 1 => if szS num c (m + 1) < szS num c (bstS num c m) then m + 1 else bstS num c m
theorem bstS_s (num : Nat → Int) (c m : Nat) : bstS num c (m + 1) = if szS num c (m + 1) < szS num c (bstS num c m) then m + 1 else bstS num c m := rfl
theorem bstS_le (num : Nat → Int) (c : Nat) : ∀ m, bstS num c m ≤ m
  | 0 => Nat.le_refl 0
  | m + 1 => by
    have := bstS_le num c m
    unfold bstS; split <;> omega
theorem c_hasLength {d : Nat} {w : fw_S} {c : Int} (hc : -2147483648 ≤ c ∧ c ≤ 2147483647) : fw_K d mX5_hasLength [.int (iI c)] w (some (.int (iI (b2 (decide (1 ≤ c ∧ c ≤ 10)))))) w := by
  refine fw_K.of (by decide) (Nat.le_of_ble_eq_true rfl) (by simp [Value.category]) (rfl) ?_
  show fw_R _ _ 0 [some (.int (iI c))] [] _ _ _
  refine fr_iload_n dX5_hasLength_0 rfl ?_
  refine fr_iconst dX5_hasLength_1 ?_
  refine fr_icmp_lt (tgt := 15) dX5_hasLength_2 (by decide) (by omega) (by omega) (fun q => ?_) (fun q => ?_)
  · refine fr_iconst dX5_hasLength_15 ?_
    exact fr_zret dX5_hasLength_16 rfl (by decide) (by rw [show decide (1 ≤ c ∧ c ≤ 10) = false by simp only [decide_eq_false_iff_not]; omega]; rfl) (rfl)
  · refine fr_iload_n dX5_hasLength_5 rfl ?_
    refine fr_bipush dX5_hasLength_6 (by decide) ?_
    refine fr_icmp_gt (tgt := 15) dX5_hasLength_8 (by decide) (by omega) (by omega) (fun q2 => ?_) (fun q2 => ?_)
    · refine fr_iconst dX5_hasLength_15 ?_
      exact fr_zret dX5_hasLength_16 rfl (by decide) (by rw [show decide (1 ≤ c ∧ c ≤ 10) = false by simp only [decide_eq_false_iff_not]; omega]; rfl) (rfl)
    · refine fr_iconst dX5_hasLength_11 ?_
      refine fr_goto (tgt := 16) dX5_hasLength_12 (by decide) ?_
      exact fr_zret dX5_hasLength_16 rfl (by decide) (by rw [show decide (1 ≤ c ∧ c ≤ 10) = true by simp only [decide_eq_true_eq]; omega]; rfl) (rfl)
theorem c_size {d o a c row : Nat} {num : Nat → Int} {w : fw_S} (hd : 1 ≤ d) (h1 : fw_g w o (.inl (5, [.ref a]))) (h2 : fw_g w a (.inr (10, .inl num))) (hN : okN num) (hc : c ≤ 10) (hr : row < 2147483647) : fw_K d mX5_size [.ref o, .int (iI c), .int (iI row)] w (some (.int (iI (szS num c row)))) w := by
  refine fw_K.of (by decide) (Nat.le_of_ble_eq_true rfl) (by simp [Value.category]) (rfl) ?_
  show fw_R _ _ 0 [some (.ref o), some (.int (iI c)), some (.int (iI row)), none, none] [] _ _ _
  refine fr_iconst dX5_size_0 ?_
  refine fr_istore_n dX5_size_1 rfl (by decide) rfl rfl ?_
  dsimp only [List.set, Option.toList, List.cons_append, List.nil_append]
  refine fr_iconst dX5_size_2 ?_
  refine fr_istore dX5_size_3 (by decide) rfl rfl ?_
  dsimp only [List.set, Option.toList, List.cons_append, List.nil_append]
  refine up_loop (fun i => fw_R mX5_size d 5 [some (.ref o), some (.int (iI c)), some (.int (iI row)), some (.int (iI (sumS num row i))), some (.int (iI i))] [] w (some (.int (iI (szS num c row)))) w) c ?_ ?_ 0 (Nat.zero_le _)
  · have hb := sumS_r hN row c hc
    refine fr_iload dX5_size_5 rfl ?_
    refine fr_iload_n dX5_size_7 rfl ?_
    refine fr_icmp_ge (tgt := 47) dX5_size_8 (by decide) (by omega) (by omega) (fun q => ?_) (fun q => ?_)
    · refine fr_iload_n dX5_size_47 rfl ?_
      refine fr_abs kX5_size_48 (by omega) rfl (by omega) ?_
      exact fr_iret dX5_size_51 rfl (rfl) (rfl)
    · omega
  · intro i hi ih
    have hb := sumS_r hN row i (by omega)
    have hni := hN i (by omega)
    have r1 := b2_r (row.testBit i)
    rw [sumS_s] at ih
    refine fr_iload dX5_size_5 rfl ?_
    refine fr_iload_n dX5_size_7 rfl ?_
    refine fr_icmp_ge (tgt := 47) dX5_size_8 (by decide) (by omega) (by omega) (fun q => ?_) (fun q => ?_)
    · omega
    refine fr_iload_n dX5_size_11 rfl ?_
    refine fr_iload_n dX5_size_12 rfl ?_
    refine fr_iload dX5_size_13 rfl ?_
    refine fr_callS kX5_size_15 (c_holds 0 row i w (by omega) (by omega)) (by omega) rfl rfl rfl ?_
    dsimp only [List.set, Option.toList, List.cons_append, List.nil_append]
    refine fr_if_eq (tgt := 32) dX5_size_18 (by decide) (by omega) (fun q2 => ?_) (fun q2 => ?_)
    · rw [b2_0.mp q2] at ih
      refine fr_aload_n dX5_size_32 rfl ?_
      refine fr_get fX5_size_33 h1 rfl ?_
      refine fr_iload dX5_size_36 rfl ?_
      refine fr_iald (i) dX5_size_38 h2 (by omega) (by omega) (by decide) ?_
      refine fr_iadd dX5_size_39 ?_
      refine fr_istore_n dX5_size_40 rfl (by decide) rfl rfl ?_
      dsimp only [List.set, Option.toList, List.cons_append, List.nil_append]
      refine fr_iinc dX5_size_41 rfl (by decide) rfl rfl ?_
      dsimp only [List.set, Option.toList, List.cons_append, List.nil_append]
      refine fr_goto (tgt := 5) dX5_size_44 (by decide) ?_
      exact ih
    · rw [b2_n0.mp q2] at ih
      refine fr_aload_n dX5_size_21 rfl ?_
      refine fr_get fX5_size_22 h1 rfl ?_
      refine fr_iload dX5_size_25 rfl ?_
      refine fr_iald (i) dX5_size_27 h2 (by omega) (by omega) (by decide) ?_
      refine fr_ineg dX5_size_28 ?_
      refine fr_goto (tgt := 39) dX5_size_29 (by decide) ?_
      refine fr_iadd dX5_size_39 ?_
      refine fr_istore_n dX5_size_40 rfl (by decide) rfl rfl ?_
      dsimp only [List.set, Option.toList, List.cons_append, List.nil_append]
      refine fr_iinc dX5_size_41 rfl (by decide) rfl rfl ?_
      dsimp only [List.set, Option.toList, List.cons_append, List.nil_append]
      refine fr_goto (tgt := 5) dX5_size_44 (by decide) ?_
      exact ih
theorem p10_le {c : Nat} (h : c ≤ 10) : 2 ^ c ≤ 1024 := Nat.pow_le_pow_right (n := 2) (by decide) h
theorem c_rowsWithin {d o a c : Nat} {num : Nat → Int} {w : fw_S} {t : Int} (hd : 2 ≤ d) (h1 : fw_g w o (.inl (5, [.ref a]))) (h2 : fw_g w a (.inr (10, .inl num))) (hN : okN num) (hc : c ≤ 10) (ht : 0 ≤ t ∧ t ≤ 10000) : fw_K d mX5_rowsWithin [.ref o, .int (iI c), .int (iI t)] w (some (.int (iI (cntS num c t (2 ^ c))))) w := by
  have hp := p10_le hc
  have hsh := iI_shl (m := 1) c (by omega) (by omega)
  rw [Nat.one_mul] at hsh
  generalize 2 ^ c = P at hp hsh ⊢
  refine fw_K.of (by decide) (Nat.le_of_ble_eq_true rfl) (by simp [Value.category]) (rfl) ?_
  show fw_R _ _ 0 [some (.ref o), some (.int (iI c)), some (.int (iI t)), none, none] [] _ _ _
  refine fr_iconst dX5_rowsWithin_0 ?_
  refine fr_istore_n dX5_rowsWithin_1 rfl (by decide) rfl rfl ?_
  dsimp only [List.set, Option.toList, List.cons_append, List.nil_append]
  refine fr_iconst dX5_rowsWithin_2 ?_
  refine fr_istore dX5_rowsWithin_3 (by decide) rfl rfl ?_
  dsimp only [List.set, Option.toList, List.cons_append, List.nil_append]
  refine up_loop (fun i => fw_R mX5_rowsWithin d 5 [some (.ref o), some (.int (iI c)), some (.int (iI t)), some (.int (iI (cntS num c t i))), some (.int (iI i))] [] w (some (.int (iI (cntS num c t P)))) w) P ?_ ?_ 0 (Nat.zero_le _)
  · refine fr_iload dX5_rowsWithin_5 rfl ?_
    refine fr_iconst dX5_rowsWithin_7 ?_
    refine fr_iload_n dX5_rowsWithin_8 rfl ?_
    refine fr_ishl ((P : Int)) dX5_rowsWithin_9 (hsh) ?_
    refine fr_icmp_ge (tgt := 33) dX5_rowsWithin_10 (by decide) (by omega) (by omega) (fun q => ?_) (fun q => ?_)
    · refine fr_iload_n dX5_rowsWithin_33 rfl ?_
      exact fr_iret dX5_rowsWithin_34 rfl (rfl) (rfl)
    · omega
  · intro i hi ih
    have hb := cntS_r num c t i
    have hs := szS_r hN i c hc
    rw [cntS_s] at ih
    refine fr_iload dX5_rowsWithin_5 rfl ?_
    refine fr_iconst dX5_rowsWithin_7 ?_
    refine fr_iload_n dX5_rowsWithin_8 rfl ?_
    refine fr_ishl ((P : Int)) dX5_rowsWithin_9 (hsh) ?_
    refine fr_icmp_ge (tgt := 33) dX5_rowsWithin_10 (by decide) (by omega) (by omega) (fun q => ?_) (fun q => ?_)
    · omega
    refine fr_aload_n dX5_rowsWithin_13 rfl ?_
    refine fr_iload_n dX5_rowsWithin_14 rfl ?_
    refine fr_iload dX5_rowsWithin_15 rfl ?_
    refine fr_callV kX5_rowsWithin_17 (c_size (d := d - 1) (by omega) h1 h2 hN hc (by omega)) (by omega) h1 rfl rfl rfl ?_
    dsimp only [List.set, Option.toList, List.cons_append, List.nil_append]
    refine fr_iload_n dX5_rowsWithin_20 rfl ?_
    refine fr_icmp_gt (tgt := 27) dX5_rowsWithin_21 (by decide) (by omega) (by omega) (fun q2 => ?_) (fun q2 => ?_)
    · rw [if_neg (by omega), Int.add_zero] at ih
      refine fr_iinc dX5_rowsWithin_27 rfl (by decide) rfl rfl ?_
      dsimp only [List.set, Option.toList, List.cons_append, List.nil_append]
      refine fr_goto (tgt := 5) dX5_rowsWithin_30 (by decide) ?_
      exact ih
    · rw [if_pos (by omega)] at ih
      refine fr_iinc dX5_rowsWithin_24 rfl (by decide) rfl rfl ?_
      dsimp only [List.set, Option.toList, List.cons_append, List.nil_append]
      refine fr_iinc dX5_rowsWithin_27 rfl (by decide) rfl rfl ?_
      dsimp only [List.set, Option.toList, List.cons_append, List.nil_append]
      refine fr_goto (tgt := 5) dX5_rowsWithin_30 (by decide) ?_
      exact ih
theorem c_smallestRow {d o a c : Nat} {num : Nat → Int} {w : fw_S} (hd : 2 ≤ d) (h1 : fw_g w o (.inl (5, [.ref a]))) (h2 : fw_g w a (.inr (10, .inl num))) (hN : okN num) (hc : c ≤ 10) : fw_K d mX5_smallestRow [.ref o, .int (iI c)] w (some (.int (iI (bstS num c (2 ^ c - 1))))) w := by
  have hp := p10_le hc
  have hp1 : 1 ≤ 2 ^ c := Nat.one_le_two_pow
  have hsh := iI_shl (m := 1) c (by omega) (by omega)
  rw [Nat.one_mul] at hsh
  generalize 2 ^ c = P at hp hp1 hsh ⊢
  refine fw_K.of (by decide) (Nat.le_of_ble_eq_true rfl) (by simp [Value.category]) (rfl) ?_
  show fw_R _ _ 0 [some (.ref o), some (.int (iI c)), none, none, none, none] [] _ _ _
  refine fr_iconst dX5_smallestRow_0 ?_
  refine fr_istore_n dX5_smallestRow_1 rfl (by decide) rfl rfl ?_
  dsimp only [List.set, Option.toList, List.cons_append, List.nil_append]
  refine fr_aload_n dX5_smallestRow_2 rfl ?_
  refine fr_iload_n dX5_smallestRow_3 rfl ?_
  refine fr_iload_n dX5_smallestRow_4 rfl ?_
  refine fr_callV kX5_smallestRow_5 (c_size (d := d - 1) (row := 0) (by omega) h1 h2 hN hc (by omega)) (by omega) h1 rfl rfl rfl ?_
  dsimp only [List.set, Option.toList, List.cons_append, List.nil_append]
  refine fr_istore_n dX5_smallestRow_8 rfl (by decide) rfl rfl ?_
  dsimp only [List.set, Option.toList, List.cons_append, List.nil_append]
  refine fr_iconst dX5_smallestRow_9 ?_
  refine fr_istore dX5_smallestRow_10 (by decide) rfl rfl ?_
  dsimp only [List.set, Option.toList, List.cons_append, List.nil_append]
  refine up_loop (fun i => fw_R mX5_smallestRow d 12 [some (.ref o), some (.int (iI c)), some (.int (iI (bstS num c i))), some (.int (iI (szS num c (bstS num c i)))), some (.int (iI ((i : Int) + 1))), none] [] w (some (.int (iI (bstS num c (P - 1))))) w) (P - 1) ?_ ?_ 0 (Nat.zero_le _)
  · refine fr_iload dX5_smallestRow_12 rfl ?_
    refine fr_iconst dX5_smallestRow_14 ?_
    refine fr_iload_n dX5_smallestRow_15 rfl ?_
    refine fr_ishl ((P : Int)) dX5_smallestRow_16 (hsh) ?_
    refine fr_icmp_ge (tgt := 47) dX5_smallestRow_17 (by decide) (by omega) (by omega) (fun q => ?_) (fun q => ?_)
    · refine fr_iload_n dX5_smallestRow_47 rfl ?_
      exact fr_iret dX5_smallestRow_48 rfl (rfl) (rfl)
    · omega
  · intro i hi ih
    have hb := bstS_le num c i
    have hs := szS_r hN (i + 1) c hc
    have hs2 := szS_r hN (bstS num c i) c hc
    rw [bstS_s] at ih
    rw [show ((i + 1 : Nat) : Int) = (i : Int) + 1 by omega] at ih
    have hcs := c_size (d := d - 1) (row := i + 1) (by omega) h1 h2 hN hc (by omega)
    rw [show ((i + 1 : Nat) : Int) = (i : Int) + 1 by omega] at hcs
    refine fr_iload dX5_smallestRow_12 rfl ?_
    refine fr_iconst dX5_smallestRow_14 ?_
    refine fr_iload_n dX5_smallestRow_15 rfl ?_
    refine fr_ishl ((P : Int)) dX5_smallestRow_16 (hsh) ?_
    refine fr_icmp_ge (tgt := 47) dX5_smallestRow_17 (by decide) (by omega) (by omega) (fun q => ?_) (fun q => ?_)
    · omega
    refine fr_aload_n dX5_smallestRow_20 rfl ?_
    refine fr_iload_n dX5_smallestRow_21 rfl ?_
    refine fr_iload dX5_smallestRow_22 rfl ?_
    refine fr_callV kX5_smallestRow_24 (hcs) (by omega) h1 rfl rfl rfl ?_
    dsimp only [List.set, Option.toList, List.cons_append, List.nil_append]
    refine fr_istore dX5_smallestRow_27 (by decide) rfl rfl ?_
    dsimp only [List.set, Option.toList, List.cons_append, List.nil_append]
    refine fr_iload dX5_smallestRow_29 rfl ?_
    refine fr_iload_n dX5_smallestRow_31 rfl ?_
    refine fr_icmp_ge (tgt := 41) dX5_smallestRow_32 (by decide) (by omega) (by omega) (fun q2 => ?_) (fun q2 => ?_)
    · rw [if_neg (by omega)] at ih
      refine fr_iinc dX5_smallestRow_41 rfl (by decide) rfl rfl ?_
      dsimp only [List.set, Option.toList, List.cons_append, List.nil_append]
      refine fr_goto (tgt := 12) dX5_smallestRow_44 (by decide) ?_
      refine ih.wk ?_
      simp [fw_le]
    · rw [if_pos (by omega)] at ih
      rw [show ((i + 1 : Nat) : Int) = (i : Int) + 1 by omega] at ih
      refine fr_iload dX5_smallestRow_35 rfl ?_
      refine fr_istore_n dX5_smallestRow_37 rfl (by decide) rfl rfl ?_
      dsimp only [List.set, Option.toList, List.cons_append, List.nil_append]
      refine fr_iload dX5_smallestRow_38 rfl ?_
      refine fr_istore_n dX5_smallestRow_40 rfl (by decide) rfl rfl ?_
      dsimp only [List.set, Option.toList, List.cons_append, List.nil_append]
      refine fr_iinc dX5_smallestRow_41 rfl (by decide) rfl rfl ?_
      dsimp only [List.set, Option.toList, List.cons_append, List.nil_append]
      refine fr_goto (tgt := 12) dX5_smallestRow_44 (by decide) ?_
      exact ih.wk (by simp [fw_le])
