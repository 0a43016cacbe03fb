/-! the class's own methods, over its whole world -/
def cLw (w : fw_S) : Prop := (∃ fc br : Int, fw_g w 3 (.inl (1, [.ref 1, .ref 4, .int (iI fc), .int (iI br)]))) ∧ ∃ f, fw_g w 4 (.inr (6, .inl f))
def cMn (w : fw_S) : Prop := fw_g w 5 (.inl (3, [.ref 1, .ref 6])) ∧ ∃ f, fw_g w 6 (.inr (32, .inr f))
def cPe (w : fw_S) : Prop := fw_g w 7 (.inl (4, [.ref 1, .ref 8, .ref 10, .ref 12])) ∧ (∃ x : Int32, fw_g w 8 (.inl (6, [.ref 9, .int x]))) ∧ (∃ f, fw_g w 9 (.inr (36, .inl f))) ∧ (∃ fc br : Int, fw_g w 10 (.inl (1, [.ref 8, .ref 11, .int (iI fc), .int (iI br)]))) ∧ (∃ f, fw_g w 11 (.inr (6, .inl f))) ∧ (∃ f, fw_g w 12 (.inr (64, .inl f)))
def cLy (w : fw_S) : Prop := (∃ (A B : Nat) (bo : Int) (ba bb : Nat), fw_g w 13 (.inl (2, [.ref 1, .ref 14, .int (iI A), .int (iI B), .int (iI bo), .int (iI ba), .int (iI bb)]))) ∧ ∃ f, fw_g w 14 (.inr (6, .inl f))
def WC (w : fw_S) (n : Nat) (D : Nat → Nat → Int) (num : Nat → Int) : Prop := fw_g w 0 (.inl (7, [.ref 1, .ref 3, .ref 5, .ref 7, .ref 13, .ref 15, .ref 16])) ∧ tb w 1 2 n D ∧ cLw w ∧ cMn w ∧ cPe w ∧ cLy w ∧ fw_g w 15 (.inl (0, [.ref 1])) ∧ fw_g w 16 (.inl (5, [.ref 17])) ∧ fw_g w 17 (.inr (10, .inl num))
theorem cLw.kp {w w' : fw_S} {X : Nat → Prop} (h : cLw w) (hk : kp w w' X) (h3 : ¬ X 3) (h4 : ¬ X 4) : cLw w' := by
  obtain ⟨⟨fc, br, a⟩, f, b⟩ := h
  exact ⟨⟨fc, br, hk.g h3 a⟩, f, hk.g h4 b⟩
theorem cMn.kp {w w' : fw_S} {X : Nat → Prop} (h : cMn w) (hk : kp w w' X) (h3 : ¬ X 5) (h4 : ¬ X 6) : cMn w' := by
  obtain ⟨a, f, b⟩ := h
  exact ⟨hk.g h3 a, f, hk.g h4 b⟩
theorem cPe.kp {w w' : fw_S} {X : Nat → Prop} (h : cPe w) (hk : kp w w' X) (h7 : ¬ X 7) (h8 : ¬ X 8) (h9 : ¬ X 9) (h10 : ¬ X 10) (h11 : ¬ X 11) (h12 : ¬ X 12) : cPe w' := by
  obtain ⟨a, ⟨x, b⟩, ⟨f, c⟩, ⟨fc, br, d⟩, ⟨f2, e⟩, ⟨f3, g⟩⟩ := h
  exact ⟨hk.g h7 a, ⟨x, hk.g h8 b⟩, ⟨f, hk.g h9 c⟩, ⟨fc, br, hk.g h10 d⟩, ⟨f2, hk.g h11 e⟩, ⟨f3, hk.g h12 g⟩⟩
theorem cLy.kp {w w' : fw_S} {X : Nat → Prop} (h : cLy w) (hk : kp w w' X) (h3 : ¬ X 13) (h4 : ¬ X 14) : cLy w' := by
  obtain ⟨⟨A, B, bo, ba, bb, a⟩, f, b⟩ := h
  exact ⟨⟨A, B, bo, ba, bb, hk.g h3 a⟩, f, hk.g h4 b⟩
theorem WC.keep {w w' : fw_S} {X : Nat → Prop} {n : Nat} {D : Nat → Nat → Int} {num : Nat → Int} (h : WC w n D num) (hk : kp w w' X) (hX : ∀ k, k < 18 → ¬ X k) : WC w' n D num :=
  ⟨hk.g (hX _ (by decide)) h.1, h.2.1.kp hk (hX _ (by decide)) (hX _ (by decide)), h.2.2.1.kp hk (hX _ (by decide)) (hX _ (by decide)), h.2.2.2.1.kp hk (hX _ (by decide)) (hX _ (by decide)), h.2.2.2.2.1.kp hk (hX _ (by decide)) (hX _ (by decide)) (hX _ (by decide)) (hX _ (by decide)) (hX _ (by decide)) (hX _ (by decide)), h.2.2.2.2.2.1.kp hk (hX _ (by decide)) (hX _ (by decide)), hk.g (hX _ (by decide)) h.2.2.2.2.2.2.1, hk.g (hX _ (by decide)) h.2.2.2.2.2.2.2.1, hk.g (hX _ (by decide)) h.2.2.2.2.2.2.2.2⟩
theorem WC.tab {w w' : fw_S} {n n' : Nat} {D D' : Nat → Nat → Int} {num : Nat → Int} (h : WC w n D num) (ht : tb w' 1 2 n' D') (hk : kp w w' (fun k => k = 1 ∨ k = 2)) : WC w' n' D' num :=
  ⟨hk.g (by decide) h.1, ht, h.2.2.1.kp hk (by decide) (by decide), h.2.2.2.1.kp hk (by decide) (by decide), h.2.2.2.2.1.kp hk (by decide) (by decide) (by decide) (by decide) (by decide) (by decide), h.2.2.2.2.2.1.kp hk (by decide) (by decide), hk.g (by decide) h.2.2.2.2.2.2.1, hk.g (by decide) h.2.2.2.2.2.2.2.1, hk.g (by decide) h.2.2.2.2.2.2.2.2⟩
theorem WC.lw {w w' : fw_S} {n : Nat} {D : Nat → Nat → Int} {num : Nat → Int} (h : WC w n D num) (ht : cLw w') (hk : kp w w' (fun k => k = 3 ∨ k = 4)) : WC w' n D num :=
  ⟨hk.g (by decide) h.1, h.2.1.kp hk (by decide) (by decide), ht, h.2.2.2.1.kp hk (by decide) (by decide), h.2.2.2.2.1.kp hk (by decide) (by decide) (by decide) (by decide) (by decide) (by decide), h.2.2.2.2.2.1.kp hk (by decide) (by decide), hk.g (by decide) h.2.2.2.2.2.2.1, hk.g (by decide) h.2.2.2.2.2.2.2.1, hk.g (by decide) h.2.2.2.2.2.2.2.2⟩
theorem WC.mn {w w' : fw_S} {n : Nat} {D : Nat → Nat → Int} {num : Nat → Int} (h : WC w n D num) (ht : cMn w') (hk : kp w w' (fun k => k = 6)) : WC w' n D num :=
  ⟨hk.g (by decide) h.1, h.2.1.kp hk (by decide) (by decide), h.2.2.1.kp hk (by decide) (by decide), ht, h.2.2.2.2.1.kp hk (by decide) (by decide) (by decide) (by decide) (by decide) (by decide), h.2.2.2.2.2.1.kp hk (by decide) (by decide), hk.g (by decide) h.2.2.2.2.2.2.1, hk.g (by decide) h.2.2.2.2.2.2.2.1, hk.g (by decide) h.2.2.2.2.2.2.2.2⟩
theorem WC.pe {w w' : fw_S} {n : Nat} {D : Nat → Nat → Int} {num : Nat → Int} (h : WC w n D num) (ht : cPe w') (hk : kp w w' (fun k => k = 8 ∨ k = 9 ∨ k = 10 ∨ k = 11 ∨ k = 12)) : WC w' n D num :=
  ⟨hk.g (by decide) h.1, h.2.1.kp hk (by decide) (by decide), h.2.2.1.kp hk (by decide) (by decide), h.2.2.2.1.kp hk (by decide) (by decide), ht, h.2.2.2.2.2.1.kp hk (by decide) (by decide), hk.g (by decide) h.2.2.2.2.2.2.1, hk.g (by decide) h.2.2.2.2.2.2.2.1, hk.g (by decide) h.2.2.2.2.2.2.2.2⟩
theorem WC.ly {w w' : fw_S} {n : Nat} {D : Nat → Nat → Int} {num : Nat → Int} (h : WC w n D num) (ht : cLy w') (hk : kp w w' (fun k => k = 13 ∨ k = 14)) : WC w' n D num :=
  ⟨hk.g (by decide) h.1, h.2.1.kp hk (by decide) (by decide), h.2.2.1.kp hk (by decide) (by decide), h.2.2.2.1.kp hk (by decide) (by decide), h.2.2.2.2.1.kp hk (by decide) (by decide) (by decide) (by decide) (by decide) (by decide), ht, hk.g (by decide) h.2.2.2.2.2.2.1, hk.g (by decide) h.2.2.2.2.2.2.2.1, hk.g (by decide) h.2.2.2.2.2.2.2.2⟩
theorem WC.nu {w : fw_S} {n : Nat} {D : Nat → Nat → Int} {num : Nat → Int} (h : WC w n D num) (num' : Nat → Int) : WC (fw_up w 17 (.inr (10, .inl num'))) n D num' := by
  have hk := kp.up w 17 (.inr (10, .inl num'))
  exact ⟨hk.g (by decide) h.1, h.2.1.kp hk (by decide) (by decide), h.2.2.1.kp hk (by decide) (by decide), h.2.2.2.1.kp hk (by decide) (by decide), h.2.2.2.2.1.kp hk (by decide) (by decide) (by decide) (by decide) (by decide) (by decide), h.2.2.2.2.2.1.kp hk (by decide) (by decide), hk.g (by decide) h.2.2.2.2.2.2.1, hk.g (by decide) h.2.2.2.2.2.2.2.1, h.2.2.2.2.2.2.2.2.up _⟩
theorem WC.pw7 {w : fw_S} {n : Nat} {D : Nat → Nat → Int} {num : Nat → Int} (h : WC w n D num) : pw w n D := ⟨h.2.2.2.2.1.1, h.2.1, h.2.2.2.2.1.2⟩
/-- a call of the class: from the world w with n, D, num to one with n', D', num' -/
def PC (M : fw_M) (a : List Value) (w : fw_S) (r : Value) (n : Nat) (D : Nat → Nat → Int) (num : Nat → Int) : Prop := ∃ w', fw_K 13 M (.ref 0 :: a) w (some r) w' ∧ WC w' n D num ∧ kp w w' (fun k => k < 18)
section PC
variable {n : Nat} {D : Nat → Nat → Int} {num : Nat → Int} {w : fw_S}
theorem p_count (h : WC w n D num) : PC mX7_count [] w (.int (iI n)) n D num := by
  refine ⟨w, ?_, h, kp.rf⟩
  refine fw_K.of (by decide) (Nat.le_of_ble_eq_true rfl) (by simp [Value.category]) (rfl) ?_
  show fw_R _ _ 0 [some (.ref 0)] [] _ _ _
  refine fr_aload_n dX7_count_0 rfl ?_
  refine fr_get fX7_count_1 h.1 rfl ?_
  refine fr_get fX7_count_4 h.2.1.1 rfl ?_
  exact fr_iret dX7_count_7 rfl (rfl) (rfl)
theorem p_table {z : Int} (h : WC w n D num) (hz : -2147483648 ≤ z ∧ z ≤ 2147483647) : (2 ≤ z ∧ z ≤ 6 → PC mX7_table [.int (iI z)] w (.int (iI z)) z.toNat D1 num) ∧ (¬ (2 ≤ z ∧ z ≤ 6) → PC mX7_table [.int (iI z)] w (.int (iI (-1))) n D num) := by
  constructor
  · rintro ⟨z1, z2⟩
    obtain ⟨m, rfl⟩ := Int.eq_ofNat_of_zero_le (show 0 ≤ z by omega)
    rw [Int.toNat_natCast]
    obtain ⟨f, hf, -⟩ := h.2.1.2.1
    obtain ⟨w', k1, k2, k3⟩ := c_reset (d := 0) h.2.1.1 hf (show 2 ≤ m ∧ m ≤ 6 by omega)
    refine ⟨w', ?_, h.tab k2 k3, k3.mono (by intro k hk; omega)⟩
    refine fw_K.of (by decide) (Nat.le_of_ble_eq_true rfl) (by simp [Value.category]) (k1.1) ?_
    show fw_R _ _ 0 [some (.ref 0), some (.int (iI m))] [] _ _ _
    refine fr_iload_n dX7_table_0 rfl ?_
    refine fr_iconst dX7_table_1 ?_
    refine fr_icmp_lt (tgt := 11) dX7_table_2 (by decide) (by omega) (by omega) (fun c => ?_) (fun c => ?_)
    · omega
    refine fr_iload_n dX7_table_5 rfl ?_
    refine fr_bipush dX7_table_6 (by decide) ?_
    refine fr_icmp_le (tgt := 13) dX7_table_8 (by decide) (by omega) (by omega) (fun c2 => ?_) (fun c2 => ?_)
    rotate_left
    · omega
    refine fr_aload_n dX7_table_13 rfl ?_
    refine fr_get fX7_table_14 h.1 rfl ?_
    refine fr_iload_n dX7_table_17 rfl ?_
    refine fr_callV kX7_table_18 (k1) (by omega) h.2.1.1 rfl rfl rfl ?_
    dsimp only [List.set, Option.toList, List.cons_append, List.nil_append]
    refine fr_iload_n dX7_table_21 rfl ?_
    exact fr_iret dX7_table_22 rfl (rfl) (rfl)
  · intro hno
    refine ⟨w, ?_, h, kp.rf⟩
    refine fw_K.of (by decide) (Nat.le_of_ble_eq_true rfl) (by simp [Value.category]) (rfl) ?_
    show fw_R _ _ 0 [some (.ref 0), some (.int (iI z))] [] _ _ _
    refine fr_iload_n dX7_table_0 rfl ?_
    refine fr_iconst dX7_table_1 ?_
    refine fr_icmp_lt (tgt := 11) dX7_table_2 (by decide) (by omega) (by omega) (fun c => ?_) (fun c => ?_)
    · refine fr_iconst dX7_table_11 ?_
      exact fr_iret dX7_table_12 rfl (rfl) (rfl)
    refine fr_iload_n dX7_table_5 rfl ?_
    refine fr_bipush dX7_table_6 (by decide) ?_
    refine fr_icmp_le (tgt := 13) dX7_table_8 (by decide) (by omega) (by omega) (fun c2 => ?_) (fun c2 => ?_)
    · omega
    refine fr_iconst dX7_table_11 ?_
    exact fr_iret dX7_table_12 rfl (rfl) (rfl)
theorem p_set {i j v : Int} (h : WC w n D num) (hi : -2147483648 ≤ i ∧ i ≤ 2147483647) (hj : -2147483648 ≤ j ∧ j ≤ 2147483647) (hv : -2147483648 ≤ v ∧ v ≤ 2147483647) : (isPr n i j ∧ i ≠ j ∧ 0 ≤ v ∧ v ≤ 30 → PC mX7_set [.int (iI i), .int (iI j), .int (iI v)] w (.int (iI (D i.toNat j.toNat))) n (setD D i.toNat j.toNat v) num) ∧ (¬ (isPr n i j ∧ i ≠ j ∧ 0 ≤ v ∧ v ≤ 30) → PC mX7_set [.int (iI i), .int (iI j), .int (iI v)] w (.int (iI (-1))) n D num) := by
  have ht := h.2.1
  have hp := c_hasPair (d := 1) (by omega) ht hi hj
  constructor
  · rintro ⟨hpr, c, e1, e2⟩
    have hpt : decide ((0 ≤ i ∧ i < (n : Int)) ∧ (0 ≤ j ∧ j < (n : Int))) = true := decide_eq_true hpr
    rw [hpt] at hp
    obtain ⟨⟨a1, a2⟩, b1, b2'⟩ := hpr
    obtain ⟨i, rfl⟩ := Int.eq_ofNat_of_zero_le a1
    obtain ⟨j, rfl⟩ := Int.eq_ofNat_of_zero_le b1
    simp only [Int.toNat_natCast]
    obtain ⟨w', k1, t1, q1⟩ := c_put (d := 0) ht (i := i) (j := j) (by omega) (by omega) v
    refine ⟨w', ?_, h.tab t1 (q1.mono (by intro k hk; omega)), q1.mono (by intro k hk; omega)⟩
    refine fw_K.of (by decide) (Nat.le_of_ble_eq_true rfl) (by simp [Value.category]) (k1.1) ?_
    show fw_R _ _ 0 [some (.ref 0), some (.int (iI i)), some (.int (iI j)), some (.int (iI v)), none] [] _ _ _
    refine fr_aload_n dX7_set_0 rfl ?_
    refine fr_get fX7_set_1 h.1 rfl ?_
    refine fr_iload_n dX7_set_4 rfl ?_
    refine fr_iload_n dX7_set_5 rfl ?_
    refine fr_callV kX7_set_6 (hp) (by omega) ht.1 rfl rfl rfl ?_
    dsimp only [List.set, Option.toList, List.cons_append, List.nil_append]
    refine fr_if_eq (tgt := 27) dX7_set_9 (by decide) (by decide) (fun c0 => ?_) (fun c0 => ?_)
    · exact absurd c0 (by decide)
    refine fr_iload_n dX7_set_12 rfl ?_
    refine fr_iload_n dX7_set_13 rfl ?_
    refine fr_icmp_eq (tgt := 27) dX7_set_14 (by decide) (by omega) (by omega) (fun c2 => ?_) (fun c2 => ?_)
    · omega
    refine fr_iload_n dX7_set_17 rfl ?_
    refine fr_if_lt (tgt := 27) dX7_set_18 (by decide) (by omega) (fun c3 => ?_) (fun c3 => ?_)
    · omega
    refine fr_iload_n dX7_set_21 rfl ?_
    refine fr_bipush dX7_set_22 (by decide) ?_
    refine fr_icmp_le (tgt := 29) dX7_set_24 (by decide) (by omega) (by omega) (fun c4 => ?_) (fun c4 => ?_)
    rotate_left
    · omega
    refine fr_aload_n dX7_set_29 rfl ?_
    refine fr_get fX7_set_30 h.1 rfl ?_
    refine fr_iload_n dX7_set_33 rfl ?_
    refine fr_iload_n dX7_set_34 rfl ?_
    refine fr_callV kX7_set_35 (c_between (d := 0) ht (i := i) (j := j) (by omega) (by omega)) (by omega) ht.1 rfl rfl rfl ?_
    dsimp only [List.set, Option.toList, List.cons_append, List.nil_append]
    refine fr_istore dX7_set_38 (by decide) rfl rfl ?_
    dsimp only [List.set, Option.toList, List.cons_append, List.nil_append]
    refine fr_aload_n dX7_set_40 rfl ?_
    refine fr_get fX7_set_41 h.1 rfl ?_
    refine fr_iload_n dX7_set_44 rfl ?_
    refine fr_iload_n dX7_set_45 rfl ?_
    refine fr_iload_n dX7_set_46 rfl ?_
    refine fr_callV kX7_set_47 (k1) (by omega) ht.1 rfl rfl rfl ?_
    dsimp only [List.set, Option.toList, List.cons_append, List.nil_append]
    refine fr_iload dX7_set_50 rfl ?_
    exact fr_iret dX7_set_52 rfl (rfl) (rfl)
  · intro hno
    refine ⟨w, ?_, h, kp.rf⟩
    have bad : fw_R mX7_set 13 27 [some (.ref 0), some (.int (iI i)), some (.int (iI j)), some (.int (iI v)), none] [] w (some (.int (iI (-1)))) w := by
      refine fr_iconst dX7_set_27 ?_
      exact fr_iret dX7_set_28 rfl (rfl) (rfl)
    have r1 := b2_r (decide ((0 ≤ i ∧ i < (n : Int)) ∧ (0 ≤ j ∧ j < (n : Int))))
    refine fw_K.of (by decide) (Nat.le_of_ble_eq_true rfl) (by simp [Value.category]) (rfl) ?_
    show fw_R _ _ 0 [some (.ref 0), some (.int (iI i)), some (.int (iI j)), some (.int (iI v)), none] [] _ _ _
    refine fr_aload_n dX7_set_0 rfl ?_
    refine fr_get fX7_set_1 h.1 rfl ?_
    refine fr_iload_n dX7_set_4 rfl ?_
    refine fr_iload_n dX7_set_5 rfl ?_
    refine fr_callV kX7_set_6 (hp) (by omega) ht.1 rfl rfl rfl ?_
    dsimp only [List.set, Option.toList, List.cons_append, List.nil_append]
    refine fr_if_eq (tgt := 27) dX7_set_9 (by decide) (by omega) (fun c0 => ?_) (fun c0 => ?_)
    · exact bad
    have q0 := b2_n0.mp c0
    simp only [decide_eq_true_eq] at q0
    refine fr_iload_n dX7_set_12 rfl ?_
    refine fr_iload_n dX7_set_13 rfl ?_
    refine fr_icmp_eq (tgt := 27) dX7_set_14 (by decide) (by omega) (by omega) (fun c2 => ?_) (fun c2 => ?_)
    · exact bad
    refine fr_iload_n dX7_set_17 rfl ?_
    refine fr_if_lt (tgt := 27) dX7_set_18 (by decide) (by omega) (fun c3 => ?_) (fun c3 => ?_)
    · exact bad
    refine fr_iload_n dX7_set_21 rfl ?_
    refine fr_bipush dX7_set_22 (by decide) ?_
    refine fr_icmp_le (tgt := 29) dX7_set_24 (by decide) (by omega) (by omega) (fun c4 => ?_) (fun c4 => ?_)
    · exact absurd ⟨q0, c2, c3, c4⟩ hno
    · exact bad
theorem p_at {i j : Int} (h : WC w n D num) (hi : -2147483648 ≤ i ∧ i ≤ 2147483647) (hj : -2147483648 ≤ j ∧ j ≤ 2147483647) (z : Int) (hz : (isPr n i j → z = D i.toNat j.toNat) ∧ (¬ isPr n i j → z = -1)) : PC mX7_at [.int (iI i), .int (iI j)] w (.int (iI z)) n D num := by
  have ht := h.2.1
  have hp := c_hasPair (d := 1) (by omega) ht hi hj
  have r1 := b2_r (decide ((0 ≤ i ∧ i < (n : Int)) ∧ (0 ≤ j ∧ j < (n : Int))))
  refine ⟨w, ?_, h, kp.rf⟩
  refine fw_K.of (by decide) (Nat.le_of_ble_eq_true rfl) (by simp [Value.category]) (rfl) ?_
  show fw_R _ _ 0 [some (.ref 0), some (.int (iI i)), some (.int (iI j))] [] _ _ _
  refine fr_aload_n dX7_at_0 rfl ?_
  refine fr_get fX7_at_1 h.1 rfl ?_
  refine fr_iload_n dX7_at_4 rfl ?_
  refine fr_iload_n dX7_at_5 rfl ?_
  refine fr_callV kX7_at_6 (hp) (by omega) ht.1 rfl rfl rfl ?_
  dsimp only [List.set, Option.toList, List.cons_append, List.nil_append]
  refine fr_if_eq (tgt := 24) dX7_at_9 (by decide) (by omega) (fun c0 => ?_) (fun c0 => ?_)
  · have q0 := b2_0.mp c0
    simp only [decide_eq_false_iff_not] at q0
    rw [hz.2 q0]
    refine fr_iconst dX7_at_24 ?_
    exact fr_iret dX7_at_25 rfl (rfl) (rfl)
  · have q0 := b2_n0.mp c0
    simp only [decide_eq_true_eq] at q0
    rw [hz.1 q0]
    obtain ⟨⟨a1, a2⟩, b1, b2'⟩ := q0
    obtain ⟨i, rfl⟩ := Int.eq_ofNat_of_zero_le a1
    obtain ⟨j, rfl⟩ := Int.eq_ofNat_of_zero_le b1
    simp only [Int.toNat_natCast]
    refine fr_aload_n dX7_at_12 rfl ?_
    refine fr_get fX7_at_13 h.1 rfl ?_
    refine fr_iload_n dX7_at_16 rfl ?_
    refine fr_iload_n dX7_at_17 rfl ?_
    refine fr_callV kX7_at_18 (c_between (d := 0) ht (i := i) (j := j) (by omega) (by omega)) (by omega) ht.1 rfl rfl rfl ?_
    dsimp only [List.set, Option.toList, List.cons_append, List.nil_append]
    refine fr_goto (tgt := 25) dX7_at_21 (by decide) ?_
    exact fr_iret dX7_at_25 rfl (rfl) (rfl)
theorem p_law {l : Int} (h : WC w n D num) (hT : okT n D) (hl : -2147483648 ≤ l ∧ l ≤ 2147483647) : PC mX7_law [.int (iI l)] w (.int (iI (if 0 ≤ l ∧ l ≤ 3 then scF (bkL n D l.toNat) (limL n l.toNat) else -1))) n D num := by
  have hq := c_hasLaw (d := 0) (w := w) hl
  have r1 := b2_r (decide (0 ≤ l ∧ l ≤ 3))
  by_cases hc : 0 ≤ l ∧ l ≤ 3
  · rw [if_pos hc]
    rw [decide_eq_true hc] at hq
    obtain ⟨l, rfl⟩ := Int.eq_ofNat_of_zero_le hc.1
    rw [Int.toNat_natCast]
    obtain ⟨⟨fc, br, a3⟩, a4⟩ := h.2.2.1
    obtain ⟨w', k1, k2, k3⟩ := c_judge (d := 12) (law := l) (by omega) (show lst w 3 1 2 4 n D fc br from ⟨a3, h.2.1, a4, by decide⟩) hT.1 (by omega)
    refine ⟨w', ?_, h.lw ⟨⟨_, _, k2.1⟩, k2.2.2.1⟩ k3, k3.mono (by intro k hk; omega)⟩
    have h0 := k3.g (by decide) h.1
    refine fw_K.of (by decide) (Nat.le_of_ble_eq_true rfl) (by simp [Value.category]) (k1.1) ?_
    show fw_R _ _ 0 [some (.ref 0), some (.int (iI l))] [] _ _ _
    refine fr_iload_n dX7_law_0 rfl ?_
    refine fr_callS kX7_law_1 (hq) (by omega) rfl rfl rfl ?_
    dsimp only [List.set, Option.toList, List.cons_append, List.nil_append]
    refine fr_if_ne (tgt := 9) dX7_law_4 (by decide) (by decide) (fun c => ?_) (fun c => ?_)
    rotate_left
    · exact absurd c (by decide)
    refine fr_aload_n dX7_law_9 rfl ?_
    refine fr_get fX7_law_10 h.1 rfl ?_
    refine fr_iload_n dX7_law_13 rfl ?_
    refine fr_callV kX7_law_14 (k1) (by omega) a3 rfl rfl rfl ?_
    dsimp only [List.set, Option.toList, List.cons_append, List.nil_append]
    refine fr_aload_n dX7_law_17 rfl ?_
    refine fr_get fX7_law_18 h0 rfl ?_
    refine fr_get fX7_law_21 k2.1 rfl ?_
    exact fr_iret dX7_law_24 rfl (rfl) (rfl)
  · rw [if_neg hc]
    rw [decide_eq_false hc] at hq
    refine ⟨w, ?_, h, kp.rf⟩
    refine fw_K.of (by decide) (Nat.le_of_ble_eq_true rfl) (by simp [Value.category]) (rfl) ?_
    show fw_R _ _ 0 [some (.ref 0), some (.int (iI l))] [] _ _ _
    refine fr_iload_n dX7_law_0 rfl ?_
    refine fr_callS kX7_law_1 (hq) (by omega) rfl rfl rfl ?_
    dsimp only [List.set, Option.toList, List.cons_append, List.nil_append]
    refine fr_if_ne (tgt := 9) dX7_law_4 (by decide) (by decide) (fun c => ?_) (fun c => ?_)
    · exact absurd rfl c
    refine fr_iconst dX7_law_7 ?_
    exact fr_iret dX7_law_8 rfl (rfl) (rfl)
theorem p_breaks {l : Int} (h : WC w n D num) (hT : okT n D) (hl : -2147483648 ≤ l ∧ l ≤ 2147483647) : PC mX7_breaks [.int (iI l)] w (.int (iI (if 0 ≤ l ∧ l ≤ 3 then scC (bkL n D l.toNat) (limL n l.toNat) else -1))) n D num := by
  have hq := c_hasLaw (d := 0) (w := w) hl
  have r1 := b2_r (decide (0 ≤ l ∧ l ≤ 3))
  by_cases hc : 0 ≤ l ∧ l ≤ 3
  · rw [if_pos hc]
    rw [decide_eq_true hc] at hq
    obtain ⟨l, rfl⟩ := Int.eq_ofNat_of_zero_le hc.1
    rw [Int.toNat_natCast]
    obtain ⟨⟨fc, br, a3⟩, a4⟩ := h.2.2.1
    obtain ⟨w', k1, k2, k3⟩ := c_judge (d := 12) (law := l) (by omega) (show lst w 3 1 2 4 n D fc br from ⟨a3, h.2.1, a4, by decide⟩) hT.1 (by omega)
    refine ⟨w', ?_, h.lw ⟨⟨_, _, k2.1⟩, k2.2.2.1⟩ k3, k3.mono (by intro k hk; omega)⟩
    have h0 := k3.g (by decide) h.1
    refine fw_K.of (by decide) (Nat.le_of_ble_eq_true rfl) (by simp [Value.category]) (k1.1) ?_
    show fw_R _ _ 0 [some (.ref 0), some (.int (iI l))] [] _ _ _
    refine fr_iload_n dX7_breaks_0 rfl ?_
    refine fr_callS kX7_breaks_1 (hq) (by omega) rfl rfl rfl ?_
    dsimp only [List.set, Option.toList, List.cons_append, List.nil_append]
    refine fr_if_ne (tgt := 9) dX7_breaks_4 (by decide) (by decide) (fun c => ?_) (fun c => ?_)
    rotate_left
    · exact absurd c (by decide)
    refine fr_aload_n dX7_breaks_9 rfl ?_
    refine fr_get fX7_breaks_10 h.1 rfl ?_
    refine fr_iload_n dX7_breaks_13 rfl ?_
    refine fr_callV kX7_breaks_14 (k1) (by omega) a3 rfl rfl rfl ?_
    dsimp only [List.set, Option.toList, List.cons_append, List.nil_append]
    refine fr_aload_n dX7_breaks_17 rfl ?_
    refine fr_get fX7_breaks_18 h0 rfl ?_
    refine fr_get fX7_breaks_21 k2.1 rfl ?_
    exact fr_iret dX7_breaks_24 rfl (rfl) (rfl)
  · rw [if_neg hc]
    rw [decide_eq_false hc] at hq
    refine ⟨w, ?_, h, kp.rf⟩
    refine fw_K.of (by decide) (Nat.le_of_ble_eq_true rfl) (by simp [Value.category]) (rfl) ?_
    show fw_R _ _ 0 [some (.ref 0), some (.int (iI l))] [] _ _ _
    refine fr_iload_n dX7_breaks_0 rfl ?_
    refine fr_callS kX7_breaks_1 (hq) (by omega) rfl rfl rfl ?_
    dsimp only [List.set, Option.toList, List.cons_append, List.nil_append]
    refine fr_if_ne (tgt := 9) dX7_breaks_4 (by decide) (by decide) (fun c => ?_) (fun c => ?_)
    · exact absurd rfl c
    refine fr_iconst dX7_breaks_7 ?_
    exact fr_iret dX7_breaks_8 rfl (rfl) (rfl)
theorem p_flat (h : WC w n D num) (hT : okT n D) (b : Bool) (hb : b = true ↔ ∀ s, 1 ≤ s → s < 2 ^ (n - 1) → ¬ lI (dtS D s) < lI 0) : PC mX7_flat [] w (.int (iI (b2 b))) n D num := by
  obtain ⟨a5, f, a6⟩ := h.2.2.2.1
  obtain ⟨w', f', k1, k2, k3⟩ := c_noneIsNegative (d := 12) (by omega) (show mi w 5 1 2 6 n D f from ⟨a5, h.2.1, a6⟩) hT.1 b hb
  refine ⟨w', ?_, h.mn ⟨k2.1, f', k2.2.2⟩ k3, k3.mono (by intro k hk; omega)⟩
  refine fw_K.of (by decide) (Nat.le_of_ble_eq_true rfl) (by simp [Value.category]) (k1.1) ?_
  show fw_R _ _ 0 [some (.ref 0)] [] _ _ _
  refine fr_aload_n dX7_flat_0 rfl ?_
  refine fr_get fX7_flat_1 h.1 rfl ?_
  refine fr_callV kX7_flat_4 (k1) (by omega) a5 rfl rfl rfl ?_
  dsimp only [List.set, Option.toList, List.cons_append, List.nil_append]
  refine fr_if_eq (tgt := 14) dX7_flat_7 (by decide) (by have := b2_r b; omega) (fun c => ?_) (fun c => ?_)
  · rw [b2_0.mp c]
    refine fr_iconst dX7_flat_14 ?_
    exact fr_iret dX7_flat_15 rfl (rfl) (rfl)
  · rw [b2_n0.mp c]
    refine fr_iconst dX7_flat_10 ?_
    refine fr_goto (tgt := 15) dX7_flat_11 (by decide) ?_
    exact fr_iret dX7_flat_15 rfl (rfl) (rfl)
theorem p_ways (h : WC w n D num) (hT : okT n D) : PC mX7_ways [] w (.int (iI (rkS D (2 ^ (n - 1) - 1)))) n D num := by
  obtain ⟨a5, f, a6⟩ := h.2.2.2.1
  obtain ⟨w', f', k1, k2, k3⟩ := c_rank (d := 12) (by omega) (show mi w 5 1 2 6 n D f from ⟨a5, h.2.1, a6⟩) hT.1
  refine ⟨w', ?_, h.mn ⟨k2.1, f', k2.2.2⟩ k3, k3.mono (by intro k hk; omega)⟩
  refine fw_K.of (by decide) (Nat.le_of_ble_eq_true rfl) (by simp [Value.category]) (k1.1) ?_
  show fw_R _ _ 0 [some (.ref 0)] [] _ _ _
  refine fr_aload_n dX7_ways_0 rfl ?_
  refine fr_get fX7_ways_1 h.1 rfl ?_
  refine fr_callV kX7_ways_4 (k1) (by omega) a5 rfl rfl rfl ?_
  dsimp only [List.set, Option.toList, List.cons_append, List.nil_append]
  exact fr_iret dX7_ways_7 rfl (rfl) (rfl)
end PC
