/-! the reference: its table. Cells: 18 itself, 19 d, 20 left, 21 peels, 22 numbers, 23 point, 24 worths, 25 place -/
def mE (n : Nat) (A B : Int) : fw_E := .inl (8, [.int (iI n), .ref 19, .ref 20, .ref 21, .ref 22, .ref 23, .ref 24, .ref 25, .int (iI A), .int (iI B)])
def mA (w : fw_S) (n : Nat) (D : Nat → Nat → Int) (A B : Int) : Prop := fw_g w 18 (.inl (8, [.int (iI n), .ref 19, .ref 20, .ref 21, .ref 22, .ref 23, .ref 24, .ref 25, .int (iI A), .int (iI B)])) ∧ (∃ f, fw_g w 19 (.inr (36, .inl f)) ∧ ∀ i j, i < n → j < n → f (6 * i + j) = D i j) ∧ 2 ≤ n ∧ n ≤ 6
theorem mA.kp {w w' : fw_S} {X : Nat → Prop} {n : Nat} {D : Nat → Nat → Int} {A B : Int} (h : mA w n D A B) (hk : kp w w' X) (ho : ¬ X 18) (ha : ¬ X 19) : mA w' n D A B := by
  obtain ⟨h1, ⟨f, h2, h3⟩, h4⟩ := h
  exact ⟨hk.g ho h1, ⟨f, hk.g ha h2, h3⟩, h4⟩
theorem mA.cg {w : fw_S} {n : Nat} {D D' : Nat → Nat → Int} {A B : Int} (h : mA w n D A B) (hD : ∀ i j, i < n → j < n → D i j = D' i j) : mA w n D' A B := by
  obtain ⟨h1, ⟨f, h2, h3⟩, h4⟩ := h
  exact ⟨h1, ⟨f, h2, fun i j hi hj => (h3 i j hi hj).trans (hD i j hi hj)⟩, h4⟩
theorem c_in {d : Nat} {w : fw_S} {v lo hi : Int} (h1 : -2147483648 ≤ v ∧ v ≤ 2147483647) (h2 : -2147483648 ≤ lo ∧ lo ≤ 2147483647) (h3 : -2147483648 ≤ hi ∧ hi ≤ 2147483647) : fw_K d mX8_in [.int (iI v), .int (iI lo), .int (iI hi)] w (some (.int (iI (b2 (decide (lo ≤ v ∧ v ≤ hi)))))) w := by
  refine fw_K.of (by decide) (Nat.le_of_ble_eq_true rfl) (by simp [Value.category]) (rfl) ?_
  show fw_R _ _ 0 [some (.int (iI v)), some (.int (iI lo)), some (.int (iI hi))] [] _ _ _
  refine fr_iload_n dX8_in_0 rfl ?_
  refine fr_iload_n dX8_in_1 rfl ?_
  refine fr_icmp_lt (tgt := 14) dX8_in_2 (by decide) (by omega) (by omega) (fun c => ?_) (fun c => ?_)
  · refine fr_iconst dX8_in_14 ?_
    exact fr_zret dX8_in_15 rfl (by decide) (by rw [show decide (lo ≤ v ∧ v ≤ hi) = false by simp only [decide_eq_false_iff_not]; omega]; rfl) (rfl)
  · refine fr_iload_n dX8_in_5 rfl ?_
    refine fr_iload_n dX8_in_6 rfl ?_
    refine fr_icmp_gt (tgt := 14) dX8_in_7 (by decide) (by omega) (by omega) (fun c2 => ?_) (fun c2 => ?_)
    · refine fr_iconst dX8_in_14 ?_
      exact fr_zret dX8_in_15 rfl (by decide) (by rw [show decide (lo ≤ v ∧ v ≤ hi) = false by simp only [decide_eq_false_iff_not]; omega]; rfl) (rfl)
    · refine fr_iconst dX8_in_10 ?_
      refine fr_goto (tgt := 15) dX8_in_11 (by decide) ?_
      exact fr_zret dX8_in_15 rfl (by decide) (by rw [show decide (lo ≤ v ∧ v ≤ hi) = true by simp only [decide_eq_true_eq]; omega]; rfl) (rfl)
theorem c_mdist {d n i j : Nat} {D : Nat → Nat → Int} {A B : Int} {w : fw_S} (h : mA w n D A B) (hi : i < n) (hj : j < n) : fw_K d mX8_dist [.ref 18, .int (iI i), .int (iI j)] w (some (.int (iI (D i j)))) w := by
  obtain ⟨h1, ⟨f, h2, h3⟩, h4, h5⟩ := h
  refine fw_K.of (by decide) (Nat.le_of_ble_eq_true rfl) (by simp [Value.category]) (rfl) ?_
  show fw_R _ _ 0 [some (.ref 18), some (.int (iI i)), some (.int (iI j))] [] _ _ _
  refine fr_aload_n dX8_dist_0 rfl ?_
  refine fr_get fX8_dist_1 h1 rfl ?_
  refine fr_bipush dX8_dist_4 (by decide) ?_
  refine fr_iload_n dX8_dist_6 rfl ?_
  refine fr_imul dX8_dist_7 ?_
  refine fr_iload_n dX8_dist_8 rfl ?_
  refine fr_iadd dX8_dist_9 ?_
  refine fr_iald (6 * i + j) dX8_dist_10 h2 (by omega) (by omega) (by decide) ?_
  rw [h3 i j hi hj]
  exact fr_iret dX8_dist_11 rfl (rfl) (rfl)
theorem c_misPoint {d n : Nat} {D : Nat → Nat → Int} {A B : Int} {w : fw_S} (hd : 1 ≤ d) (h : mA w n D A B) {i : Int} (hi : -2147483648 ≤ i ∧ i ≤ 2147483647) : fw_K d mX8_isPoint [.ref 18, .int (iI i)] w (some (.int (iI (b2 (decide (0 ≤ i ∧ i < n)))))) w := by
  have h1 := h.1
  have hn := h.2.2
  have hin := c_in (d := 0) (w := w) (v := i) (lo := 0) (hi := (n : Int) - 1) hi (by omega) (by omega)
  rw [show decide (0 ≤ i ∧ i ≤ (n : Int) - 1) = decide (0 ≤ i ∧ i < (n : Int)) by by_cases z : 0 ≤ i ∧ i < (n : Int) <;> simp [z] <;> omega] at hin
  refine fw_K.of (by decide) (Nat.le_of_ble_eq_true rfl) (by simp [Value.category]) (rfl) ?_
  show fw_R _ _ 0 [some (.ref 18), some (.int (iI i))] [] _ _ _
  refine fr_iload_n dX8_isPoint_0 rfl ?_
  refine fr_iconst dX8_isPoint_1 ?_
  refine fr_aload_n dX8_isPoint_2 rfl ?_
  refine fr_get fX8_isPoint_3 h1 rfl ?_
  refine fr_iconst dX8_isPoint_6 ?_
  refine fr_isub dX8_isPoint_7 ?_
  refine fr_callS kX8_isPoint_8 (hin) (by omega) rfl rfl rfl ?_
  dsimp only [List.set, Option.toList, List.cons_append, List.nil_append]
  exact fr_zret dX8_isPoint_11 rfl (b2_nar _) rfl rfl
theorem c_mfills {d o dA : Nat} {x : Int32} {es : List Value} {f0 : Nat → Int} {w : fw_S} (h1 : fw_g w o (.inl (8, .int x :: .ref dA :: es))) (h2 : fw_g w dA (.inr (36, .inl f0))) : ∃ w', fw_K d mX8_fills [.ref o] w none w' ∧ (∃ f, fw_g w' dA (.inr (36, .inl f)) ∧ ∀ k, k < 36 → f k = if k / 6 = k % 6 then 0 else 1) ∧ kp w w' (fun k => k = dA) := by
  have hoa := h1.oa h2
  have lp := lpE (M := mX8_fills) (d := d) (pcH := 2) 36 (fun k _ => [some (.ref o), some (.int (iI k))]) (fun k (_ : Unit) v => fw_g v o (.inl (8, .int x :: .ref dA :: es)) ∧ (∃ f, fw_g v dA (.inr (36, .inl f)) ∧ ∀ k', k' < k → f k' = if k' / 6 = k' % 6 then 0 else 1) ∧ kp w v (fun k => k = dA)) (by
    intro k _ v hk ⟨g1, ⟨f, g2, g3⟩, g4⟩
    refine ⟨(), fw_up v dA (.inr (36, .inl (fw_u f k (if k / 6 = k % 6 then 0 else 1)))), ⟨g1.ne _ hoa, ⟨_, g2.up _, fun k' hk' => ?_⟩, g4.trans (kp.up _ _ _)⟩, ?_⟩
    · by_cases e : k' = k
      · subst e; rw [fw_u_self]
      · rw [fw_u_ne _ _ e]; exact g3 k' (by omega)
    · intro r w' kk
      have e1 : (k : Int).tdiv 6 = ((k / 6 : Nat) : Int) := td_nat k 6
      have e2 : (k : Int).tmod 6 = ((k % 6 : Nat) : Int) := tm_nat k 6
      refine fr_iload_n dX8_fills_2 rfl ?_
      refine fr_bipush dX8_fills_3 (by decide) ?_
      refine fr_icmp_ge (tgt := 36) dX8_fills_5 (by decide) (by omega) (by omega) (fun c => ?_) (fun c => ?_)
      · omega
      refine fr_aload_n dX8_fills_8 rfl ?_
      refine fr_get fX8_fills_9 g1 rfl ?_
      refine fr_iload_n dX8_fills_12 rfl ?_
      refine fr_iload_n dX8_fills_13 rfl ?_
      refine fr_bipush dX8_fills_14 (by decide) ?_
      refine fr_idiv dX8_fills_16 (by omega) (by omega) (by omega) ?_
      refine fr_iload_n dX8_fills_17 rfl ?_
      refine fr_bipush dX8_fills_18 (by decide) ?_
      refine fr_irem dX8_fills_20 (by omega) (by omega) (by omega) ?_
      rw [e1, e2]
      refine fr_icmp_ne (tgt := 28) dX8_fills_21 (by decide) (by omega) (by omega) (fun c2 => ?_) (fun c2 => ?_)
      · rw [if_neg (by omega)] at kk
        refine fr_iconst dX8_fills_28 ?_
        refine fr_iast (k) dX8_fills_29 g2 (by omega) (by omega) (by decide) ?_
        refine fr_iinc dX8_fills_30 rfl (by decide) rfl rfl ?_
        dsimp only [List.set, Option.toList, List.cons_append, List.nil_append]
        refine fr_goto (tgt := 2) dX8_fills_33 (by decide) ?_
        exact kk
      · rw [if_pos (by omega)] at kk
        refine fr_iconst dX8_fills_24 ?_
        refine fr_goto (tgt := 29) dX8_fills_25 (by decide) ?_
        refine fr_iast (k) dX8_fills_29 g2 (by omega) (by omega) (by decide) ?_
        refine fr_iinc dX8_fills_30 rfl (by decide) rfl rfl ?_
        dsimp only [List.set, Option.toList, List.cons_append, List.nil_append]
        refine fr_goto (tgt := 2) dX8_fills_33 (by decide) ?_
        exact kk)
  obtain ⟨_, wE, ⟨e1, ⟨f, e2, e3⟩, e4⟩, hr⟩ := lp 0 () w (Nat.zero_le _) ⟨h1, ⟨f0, h2, fun k hk => absurd hk (Nat.not_lt_zero k)⟩, kp.rf⟩
  refine ⟨wE, ?_, ⟨f, e2, e3⟩, e4⟩
  refine fw_K.of (by decide) (Nat.le_of_ble_eq_true rfl) (by simp [Value.category]) (e4.1) ?_
  show fw_R _ _ 0 [some (.ref o), none] [] _ _ _
  refine fr_iconst dX8_fills_0 ?_
  refine fr_istore_n dX8_fills_1 rfl (by decide) rfl rfl ?_
  dsimp only [List.set, Option.toList, List.cons_append, List.nil_append]
  refine hr _ _ ?_
  refine fr_iload_n dX8_fills_2 rfl ?_
  refine fr_bipush dX8_fills_3 (by decide) ?_
  refine fr_icmp_ge (tgt := 36) dX8_fills_5 (by decide) (by omega) (by omega) (fun c => ?_) (fun c => ?_)
  · exact fr_vret dX8_fills_36 rfl rfl (rfl)
  · omega
theorem mA.up {w : fw_S} {n : Nat} {D : Nat → Nat → Int} {A B : Int} (h : mA w n D A B) (A' B' : Int) : mA (fw_up w 18 (mE n A' B')) n D A' B' := by
  obtain ⟨h1, ⟨f, h2, h3⟩, h4⟩ := h
  exact ⟨h1.up _, ⟨f, h2.ne _ (by decide), h3⟩, h4⟩
theorem c_mtable {d n : Nat} {D : Nat → Nat → Int} {A B z : Int} {w : fw_S} (hd : 1 ≤ d) (h : mA w n D A B) (hz : -2147483648 ≤ z ∧ z ≤ 2147483647) : ∃ w', fw_K d mX8_table [.ref 18, .int (iI z)] w (some (.int (iI (if 2 ≤ z ∧ z ≤ 6 then z else -1)))) w' ∧ (if 2 ≤ z ∧ z ≤ 6 then mA w' z.toNat D1 A B else mA w' n D A B) ∧ kp w w' (fun k => k = 18 ∨ k = 19) := by
  have hin := c_in (d := 0) (w := w) (v := z) (lo := 2) (hi := 6) hz (by omega) (by omega)
  by_cases hc : 2 ≤ z ∧ z ≤ 6
  · simp only [if_pos hc]
    obtain ⟨m, rfl⟩ := Int.eq_ofNat_of_zero_le (show 0 ≤ z by omega)
    rw [Int.toNat_natCast]
    rw [show decide ((2 : Int) ≤ (m : Int) ∧ (m : Int) ≤ 6) = true by simp only [decide_eq_true_eq]; omega] at hin
    obtain ⟨h1, ⟨f, h2, h3⟩, h4⟩ := h
    have u1 := h1.up (.inl (8, [.int (iI m), .ref 19, .ref 20, .ref 21, .ref 22, .ref 23, .ref 24, .ref 25, .int (iI A), .int (iI B)]))
    have u2 := h2.ne (k := 18) (.inl (8, [.int (iI m), .ref 19, .ref 20, .ref 21, .ref 22, .ref 23, .ref 24, .ref 25, .int (iI A), .int (iI B)])) (by decide)
    obtain ⟨w1, k1, ⟨g, k2, k3⟩, k4⟩ := c_mfills (d := 0) u1 u2
    have kall : kp w w1 (fun k => k = 18 ∨ k = 19) := ((kp.up w 18 _).mono (fun k hk => Or.inl hk)).trans (k4.mono (fun k hk => Or.inr hk))
    have k5 := k4.g (k := 18) (by decide) u1
    refine ⟨w1, ?_, ⟨k5, ⟨g, k2, fun i j hi hj => ?_⟩, by omega⟩, kall⟩
    · refine fw_K.of (by decide) (Nat.le_of_ble_eq_true rfl) (by simp [Value.category]) (kall.1) ?_
      show fw_R _ _ 0 [some (.ref 18), some (.int (iI m))] [] _ _ _
      refine fr_iload_n dX8_table_0 rfl ?_
      refine fr_iconst dX8_table_1 ?_
      refine fr_bipush dX8_table_2 (by decide) ?_
      refine fr_callS kX8_table_4 (hin) (by omega) rfl rfl rfl ?_
      dsimp only [List.set, Option.toList, List.cons_append, List.nil_append]
      refine fr_if_ne (tgt := 12) dX8_table_7 (by decide) (by decide) (fun c => ?_) (fun c => ?_)
      · refine fr_aload_n dX8_table_12 rfl ?_
        refine fr_iload_n dX8_table_13 rfl ?_
        refine fr_put fX8_table_14 pfX8_0 h1 (by simp) rfl ?_
        dsimp only [List.set, Option.toList, List.cons_append, List.nil_append]
        refine fr_aload_n dX8_table_17 rfl ?_
        refine fr_callV kX8_table_18 (k1) (by omega) u1 rfl rfl rfl ?_
        dsimp only [List.set, Option.toList, List.cons_append, List.nil_append]
        refine fr_aload_n dX8_table_21 rfl ?_
        refine fr_get fX8_table_22 k5 rfl ?_
        exact fr_iret dX8_table_25 rfl (rfl) (rfl)
      · exact absurd c (by decide)
    · rw [k3 _ (by omega), show (6 * i + j) / 6 = i by omega, show (6 * i + j) % 6 = j by omega]; rfl
  · simp only [if_neg hc]
    rw [show decide ((2 : Int) ≤ z ∧ z ≤ 6) = false by simp only [decide_eq_false_iff_not]; exact hc] at hin
    refine ⟨w, ?_, h, kp.rf⟩
    refine fw_K.of (by decide) (Nat.le_of_ble_eq_true rfl) (by simp [Value.category]) (rfl) ?_
    show fw_R _ _ 0 [some (.ref 18), some (.int (iI z))] [] _ _ _
    refine fr_iload_n dX8_table_0 rfl ?_
    refine fr_iconst dX8_table_1 ?_
    refine fr_bipush dX8_table_2 (by decide) ?_
    refine fr_callS kX8_table_4 (hin) (by omega) rfl rfl rfl ?_
    dsimp only [List.set, Option.toList, List.cons_append, List.nil_append]
    refine fr_if_ne (tgt := 12) dX8_table_7 (by decide) (by decide) (fun c => ?_) (fun c => ?_)
    · exact absurd rfl c
    · refine fr_iconst dX8_table_10 ?_
      exact fr_iret dX8_table_11 rfl (rfl) (rfl)
/-- a pair of points -/
def isPr (n : Nat) (i j : Int) : Prop := (0 ≤ i ∧ i < n) ∧ (0 ≤ j ∧ j < n)
theorem c_mset {d n : Nat} {D : Nat → Nat → Int} {A B i j v : Int} {w : fw_S} (hd : 2 ≤ d) (h : mA w n D A B) (hi : -2147483648 ≤ i ∧ i ≤ 2147483647) (hj : -2147483648 ≤ j ∧ j ≤ 2147483647) (hv : -2147483648 ≤ v ∧ v ≤ 2147483647) : ∃ w', (isPr n i j ∧ i ≠ j ∧ 0 ≤ v ∧ v ≤ 30 → fw_K d mX8_set [.ref 18, .int (iI i), .int (iI j), .int (iI v)] w (some (.int (iI (D i.toNat j.toNat)))) w' ∧ mA w' n (setD D i.toNat j.toNat v) A B) ∧ (¬ (isPr n i j ∧ i ≠ j ∧ 0 ≤ v ∧ v ≤ 30) → fw_K d mX8_set [.ref 18, .int (iI i), .int (iI j), .int (iI v)] w (some (.int (iI (-1)))) w' ∧ mA w' n D A B) ∧ kp w w' (fun k => k = 19) := by
  have h1 := h.1
  have hn := h.2.2
  have hpi := c_misPoint (d := 1) (by omega) h hi
  have hpj := c_misPoint (d := 1) (by omega) h hj
  have hin := c_in (d := 0) (w := w) (v := v) (lo := 0) (hi := 30) hv (by omega) (by omega)
  have r1 := b2_r (decide (0 ≤ i ∧ i < (n : Int)))
  have r2 := b2_r (decide (0 ≤ j ∧ j < (n : Int)))
  have r3 := b2_r (decide (0 ≤ v ∧ v ≤ 30))
  by_cases hc : isPr n i j ∧ i ≠ j ∧ 0 ≤ v ∧ v ≤ 30
  · obtain ⟨⟨ci, cj⟩, cij, cv⟩ := hc
    obtain ⟨p, rfl⟩ := Int.eq_ofNat_of_zero_le ci.1
    obtain ⟨q, rfl⟩ := Int.eq_ofNat_of_zero_le cj.1
    obtain ⟨-, ⟨f, h2, h3⟩, -⟩ := id h
    have hdist := c_mdist (d := 0) h (i := p) (j := q) (by omega) (by omega)
    refine ⟨fw_up (fw_up w 19 (.inr (36, .inl (fw_u f (6 * p + q) v)))) 19 (.inr (36, .inl (fw_u (fw_u f (6 * p + q) v) (6 * q + p) v))), fun _ => ⟨?_, (h1.ne _ (by decide)).ne _ (by decide), ⟨_, (h2.up _).up _, fun x y hx hy => ?_⟩, hn⟩, fun z => absurd ⟨⟨ci, cj⟩, cij, cv⟩ z, (kp.up _ _ _).trans (kp.up _ _ _)⟩
    · rw [show decide (0 ≤ (p : Int) ∧ (p : Int) < (n : Int)) = true by simp only [decide_eq_true_eq]; exact ci] at hpi
      rw [show decide (0 ≤ (q : Int) ∧ (q : Int) < (n : Int)) = true by simp only [decide_eq_true_eq]; exact cj] at hpj
      rw [show decide (0 ≤ v ∧ v ≤ 30) = true by simp only [decide_eq_true_eq]; exact cv] at hin
      have u1 := h1.ne (k := 19) (.inr (36, .inl (fw_u f (6 * p + q) v))) (by decide)
      have u2 := h2.up (.inr (36, .inl (fw_u f (6 * p + q) v)))
      rw [Int.toNat_natCast, Int.toNat_natCast]
      refine fw_K.of (by decide) (Nat.le_of_ble_eq_true rfl) (by simp [Value.category]) (rfl) ?_
      show fw_R _ _ 0 [some (.ref 18), some (.int (iI p)), some (.int (iI q)), some (.int (iI v)), none] [] _ _ _
      refine fr_aload_n dX8_set_0 rfl ?_
      refine fr_iload_n dX8_set_1 rfl ?_
      refine fr_callV kX8_set_2 (hpi) (by omega) h1 rfl rfl rfl ?_
      dsimp only [List.set, Option.toList, List.cons_append, List.nil_append]
      refine fr_if_eq (tgt := 31) dX8_set_5 (by decide) (by decide) (fun c => ?_) (fun c => ?_)
      · exact absurd c (by decide)
      refine fr_aload_n dX8_set_8 rfl ?_
      refine fr_iload_n dX8_set_9 rfl ?_
      refine fr_callV kX8_set_10 (hpj) (by omega) h1 rfl rfl rfl ?_
      dsimp only [List.set, Option.toList, List.cons_append, List.nil_append]
      refine fr_if_eq (tgt := 31) dX8_set_13 (by decide) (by decide) (fun c => ?_) (fun c => ?_)
      · exact absurd c (by decide)
      refine fr_iload_n dX8_set_16 rfl ?_
      refine fr_iload_n dX8_set_17 rfl ?_
      refine fr_icmp_eq (tgt := 31) dX8_set_18 (by decide) (by omega) (by omega) (fun c => ?_) (fun c => ?_)
      · exact absurd c cij
      refine fr_iload_n dX8_set_21 rfl ?_
      refine fr_iconst dX8_set_22 ?_
      refine fr_bipush dX8_set_23 (by decide) ?_
      refine fr_callS kX8_set_25 (hin) (by omega) rfl rfl rfl ?_
      dsimp only [List.set, Option.toList, List.cons_append, List.nil_append]
      refine fr_if_ne (tgt := 33) dX8_set_28 (by decide) (by decide) (fun c => ?_) (fun c => ?_)
      · refine fr_aload_n dX8_set_33 rfl ?_
        refine fr_iload_n dX8_set_34 rfl ?_
        refine fr_iload_n dX8_set_35 rfl ?_
        refine fr_callV kX8_set_36 (hdist) (by omega) h1 rfl rfl rfl ?_
        dsimp only [List.set, Option.toList, List.cons_append, List.nil_append]
        refine fr_istore dX8_set_39 (by decide) rfl rfl ?_
        dsimp only [List.set, Option.toList, List.cons_append, List.nil_append]
        refine fr_aload_n dX8_set_41 rfl ?_
        refine fr_get fX8_set_42 h1 rfl ?_
        refine fr_bipush dX8_set_45 (by decide) ?_
        refine fr_iload_n dX8_set_47 rfl ?_
        refine fr_imul dX8_set_48 ?_
        refine fr_iload_n dX8_set_49 rfl ?_
        refine fr_iadd dX8_set_50 ?_
        refine fr_iload_n dX8_set_51 rfl ?_
        refine fr_iast (6 * p + q) dX8_set_52 h2 (by omega) (by omega) (by decide) ?_
        refine fr_aload_n dX8_set_53 rfl ?_
        refine fr_get fX8_set_54 u1 rfl ?_
        refine fr_bipush dX8_set_57 (by decide) ?_
        refine fr_iload_n dX8_set_59 rfl ?_
        refine fr_imul dX8_set_60 ?_
        refine fr_iload_n dX8_set_61 rfl ?_
        refine fr_iadd dX8_set_62 ?_
        refine fr_iload_n dX8_set_63 rfl ?_
        refine fr_iast (6 * q + p) dX8_set_64 u2 (by omega) (by omega) (by decide) ?_
        refine fr_iload dX8_set_65 rfl ?_
        exact fr_iret dX8_set_67 rfl (rfl) (rfl)
      · exact absurd c (by decide)
    · rw [Int.toNat_natCast, Int.toNat_natCast]
      unfold setD
      by_cases e1 : 6 * x + y = 6 * q + p
      · rw [e1, fw_u_self, if_pos (by omega)]
      · rw [fw_u_ne _ _ e1]
        by_cases e2 : 6 * x + y = 6 * p + q
        · rw [e2, fw_u_self, if_pos (by omega)]
        · rw [fw_u_ne _ _ e2, if_neg (by omega)]; exact h3 x y hx hy
  · refine ⟨w, fun z => absurd z hc, fun _ => ⟨?_, h⟩, kp.rf⟩
    have fin : ∀ x4, fw_R mX8_set d 31 [some (.ref 18), some (.int (iI i)), some (.int (iI j)), some (.int (iI v)), x4] [] w (some (.int (iI (-1)))) w := by
      intro x4
      refine fr_iconst dX8_set_31 ?_
      exact fr_iret dX8_set_32 rfl (rfl) (rfl)
    refine fw_K.of (by decide) (Nat.le_of_ble_eq_true rfl) (by simp [Value.category]) (rfl) ?_
    show fw_R _ _ 0 [some (.ref 18), some (.int (iI i)), some (.int (iI j)), some (.int (iI v)), none] [] _ _ _
    refine fr_aload_n dX8_set_0 rfl ?_
    refine fr_iload_n dX8_set_1 rfl ?_
    refine fr_callV kX8_set_2 (hpi) (by omega) h1 rfl rfl rfl ?_
    dsimp only [List.set, Option.toList, List.cons_append, List.nil_append]
    refine fr_if_eq (tgt := 31) dX8_set_5 (by decide) (by omega) (fun c1 => ?_) (fun c1 => ?_)
    · exact fin _
    refine fr_aload_n dX8_set_8 rfl ?_
    refine fr_iload_n dX8_set_9 rfl ?_
    refine fr_callV kX8_set_10 (hpj) (by omega) h1 rfl rfl rfl ?_
    dsimp only [List.set, Option.toList, List.cons_append, List.nil_append]
    refine fr_if_eq (tgt := 31) dX8_set_13 (by decide) (by omega) (fun c2 => ?_) (fun c2 => ?_)
    · exact fin _
    refine fr_iload_n dX8_set_16 rfl ?_
    refine fr_iload_n dX8_set_17 rfl ?_
    refine fr_icmp_eq (tgt := 31) dX8_set_18 (by decide) (by omega) (by omega) (fun c3 => ?_) (fun c3 => ?_)
    · exact fin _
    refine fr_iload_n dX8_set_21 rfl ?_
    refine fr_iconst dX8_set_22 ?_
    refine fr_bipush dX8_set_23 (by decide) ?_
    refine fr_callS kX8_set_25 (hin) (by omega) rfl rfl rfl ?_
    dsimp only [List.set, Option.toList, List.cons_append, List.nil_append]
    refine fr_if_ne (tgt := 33) dX8_set_28 (by decide) (by omega) (fun c4 => ?_) (fun c4 => ?_)
    · have d1 := b2_n0.mp c1
      have d2 := b2_n0.mp c2
      have d4 := b2_n0.mp c4
      simp only [decide_eq_true_eq] at d1 d2 d4
      exact absurd ⟨⟨d1, d2⟩, c3, d4⟩ hc
    · exact fin _
theorem c_mat {d n : Nat} {D : Nat → Nat → Int} {A B i j : Int} {w : fw_S} (hd : 2 ≤ d) (h : mA w n D A B) (hi : -2147483648 ≤ i ∧ i ≤ 2147483647) (hj : -2147483648 ≤ j ∧ j ≤ 2147483647) (z : Int) (hz : (isPr n i j → z = D i.toNat j.toNat) ∧ (¬ isPr n i j → z = -1)) : fw_K d mX8_at [.ref 18, .int (iI i), .int (iI j)] w (some (.int (iI z))) w := by
  have h1 := h.1
  have hpi := c_misPoint (d := 1) (by omega) h hi
  have hpj := c_misPoint (d := 1) (by omega) h hj
  have r1 := b2_r (decide (0 ≤ i ∧ i < (n : Int)))
  have r2 := b2_r (decide (0 ≤ j ∧ j < (n : Int)))
  have fin : ¬ isPr n i j → fw_R mX8_at d 25 [some (.ref 18), some (.int (iI i)), some (.int (iI j))] [] w (some (.int (iI z))) w := by
    intro q
    rw [hz.2 q]
    refine fr_iconst dX8_at_25 ?_
    exact fr_iret dX8_at_26 rfl (rfl) (rfl)
  refine fw_K.of (by decide) (Nat.le_of_ble_eq_true rfl) (by simp [Value.category]) (rfl) ?_
  show fw_R _ _ 0 [some (.ref 18), some (.int (iI i)), some (.int (iI j))] [] _ _ _
  refine fr_aload_n dX8_at_0 rfl ?_
  refine fr_iload_n dX8_at_1 rfl ?_
  refine fr_callV kX8_at_2 (hpi) (by omega) h1 rfl rfl rfl ?_
  dsimp only [List.set, Option.toList, List.cons_append, List.nil_append]
  refine fr_if_eq (tgt := 25) dX8_at_5 (by decide) (by omega) (fun c1 => ?_) (fun c1 => ?_)
  · have d1 := b2_0.mp c1
    simp only [decide_eq_false_iff_not] at d1
    exact fin (fun q => d1 q.1)
  refine fr_aload_n dX8_at_8 rfl ?_
  refine fr_iload_n dX8_at_9 rfl ?_
  refine fr_callV kX8_at_10 (hpj) (by omega) h1 rfl rfl rfl ?_
  dsimp only [List.set, Option.toList, List.cons_append, List.nil_append]
  refine fr_if_eq (tgt := 25) dX8_at_13 (by decide) (by omega) (fun c2 => ?_) (fun c2 => ?_)
  · have d1 := b2_0.mp c2
    simp only [decide_eq_false_iff_not] at d1
    exact fin (fun q => d1 q.2)
  have d1 := b2_n0.mp c1
  have d2 := b2_n0.mp c2
  simp only [decide_eq_true_eq] at d1 d2
  rw [hz.1 ⟨d1, d2⟩]
  obtain ⟨p, rfl⟩ := Int.eq_ofNat_of_zero_le d1.1
  obtain ⟨q, rfl⟩ := Int.eq_ofNat_of_zero_le d2.1
  refine fr_aload_n dX8_at_16 rfl ?_
  refine fr_iload_n dX8_at_17 rfl ?_
  refine fr_iload_n dX8_at_18 rfl ?_
  refine fr_callV kX8_at_19 (c_mdist (d := 0) h (i := p) (j := q) (by omega) (by omega)) (by omega) h1 rfl rfl rfl ?_
  dsimp only [List.set, Option.toList, List.cons_append, List.nil_append]
  refine fr_goto (tgt := 26) dX8_at_22 (by decide) ?_
  exact fr_iret dX8_at_26 rfl (rfl) (rfl)
theorem c_mcount {d n : Nat} {D : Nat → Nat → Int} {A B : Int} {w : fw_S} (h : mA w n D A B) : fw_K d mX8_count [.ref 18] w (some (.int (iI n))) w := by
  have h1 := h.1
  refine fw_K.of (by decide) (Nat.le_of_ble_eq_true rfl) (by simp [Value.category]) (rfl) ?_
  show fw_R _ _ 0 [some (.ref 18)] [] _ _ _
  refine fr_aload_n dX8_count_0 rfl ?_
  refine fr_get fX8_count_1 h1 rfl ?_
  exact fr_iret dX8_count_4 rfl (rfl) (rfl)
theorem c_mparts {d z i j : Nat} {w : fw_S} (hz : z ≤ 2147483647) (hi : i < 31) (hj : j < 31) : fw_K d mX8_parts [.int (iI z), .int (iI i), .int (iI j)] w (some (.int (iI (b2 (pt z i j))))) w := by
  have bitr : ∀ k : Nat, k < 31 → iI z >>> (iI (k : Int) &&& 31) = iI ((z / 2 ^ k : Nat) : Int) ∧ iI ((z / 2 ^ k : Nat) : Int) &&& iI 1 = iI (b2 (z.testBit k)) := by
    intro k hk
    have e0 : ((z : Int) / 2 ^ k) = ((z / 2 ^ k : Nat) : Int) := by norm_cast
    have e1 : z / 2 ^ k ≤ z := Nat.div_le_self _ _
    refine ⟨?_, ?_⟩
    · rw [← e0]; exact iI_shr k (by omega) hk
    · rw [← tbit]; exact iI_andp 1 (by decide) (by omega)
  have r1 := b2_r (z.testBit i)
  have r2 := b2_r (z.testBit j)
  refine fw_K.of (by decide) (Nat.le_of_ble_eq_true rfl) (by simp [Value.category]) (rfl) ?_
  show fw_R _ _ 0 [some (.int (iI z)), some (.int (iI i)), some (.int (iI j))] [] _ _ _
  refine fr_iload_n dX8_parts_0 rfl ?_
  refine fr_iload_n dX8_parts_1 rfl ?_
  refine fr_ishr (((z / 2 ^ i : Nat) : Int)) dX8_parts_2 ((bitr i hi).1) ?_
  refine fr_iconst dX8_parts_3 ?_
  refine fr_iand (b2 (z.testBit i)) dX8_parts_4 ((bitr i hi).2) ?_
  refine fr_iload_n dX8_parts_5 rfl ?_
  refine fr_iload_n dX8_parts_6 rfl ?_
  refine fr_ishr (((z / 2 ^ j : Nat) : Int)) dX8_parts_7 ((bitr j hj).1) ?_
  refine fr_iconst dX8_parts_8 ?_
  refine fr_iand (b2 (z.testBit j)) dX8_parts_9 ((bitr j hj).2) ?_
  refine fr_icmp_eq (tgt := 17) dX8_parts_10 (by decide) (by omega) (by omega) (fun c => ?_) (fun c => ?_)
  · refine fr_iconst dX8_parts_17 ?_
    exact fr_zret dX8_parts_18 rfl (by decide) (by rw [show pt z i j = false by unfold pt; rw [b2_inj.mp c]; simp]; rfl) rfl
  · refine fr_iconst dX8_parts_13 ?_
    refine fr_goto (tgt := 18) dX8_parts_14 (by decide) ?_
    exact fr_zret dX8_parts_18 rfl (by decide) (by rw [show pt z i j = true by unfold pt; simpa using fun h => c (by rw [h])]; rfl) rfl
theorem bit_r {z k : Nat} (hz : z ≤ 2147483647) (hk : k < 31) : iI z >>> (iI (k : Int) &&& 31) = iI ((z / 2 ^ k : Nat) : Int) ∧ iI ((z / 2 ^ k : Nat) : Int) &&& iI 1 = iI (b2 (z.testBit k)) ∧ iI ((z / 2 ^ k : Nat) : Int) &&& iI 1 = iI ((z / 2 ^ k % 2 : Nat) : Int) := by
  have e0 : ((z : Int) / 2 ^ k) = ((z / 2 ^ k : Nat) : Int) := by norm_cast
  have e1 : z / 2 ^ k ≤ z := Nat.div_le_self _ _
  refine ⟨?_, ?_, ?_⟩
  · rw [← e0]; exact iI_shr k (by omega) hk
  · rw [← tbit]; exact iI_andp 1 (by decide) (by omega)
  · exact iI_andp 1 (by decide) (by omega)
theorem c_mbits {d v : Nat} {w : fw_S} (hv : v ≤ 2147483647) : fw_K d mX8_bits [.int (iI v)] w (some (.int (iI (popc v)))) w := by
  have hle : ∀ k, bitsN v k ≤ k := by
    intro k
    induction k with
    | zero => exact Nat.le_refl 0
    | succ k ih => unfold bitsN; omega
  refine fw_K.of (by decide) (Nat.le_of_ble_eq_true rfl) (by simp [Value.category]) (rfl) ?_
  show fw_R _ _ 0 [some (.int (iI v)), none, none] [] _ _ _
  refine fr_iconst dX8_bits_0 ?_
  refine fr_istore_n dX8_bits_1 rfl (by decide) rfl rfl ?_
  dsimp only [List.set, Option.toList, List.cons_append, List.nil_append]
  refine fr_iconst dX8_bits_2 ?_
  refine fr_istore_n dX8_bits_3 rfl (by decide) rfl rfl ?_
  dsimp only [List.set, Option.toList, List.cons_append, List.nil_append]
  refine up_loop (fun k => fw_R mX8_bits d 4 [some (.int (iI v)), some (.int (iI (bitsN v k))), some (.int (iI k))] [] w (some (.int (iI (popc v)))) w) 10 ?_ ?_ 0 (Nat.zero_le _)
  · refine fr_iload_n dX8_bits_4 rfl ?_
    refine fr_bipush dX8_bits_5 (by decide) ?_
    refine fr_icmp_ge (tgt := 24) dX8_bits_7 (by decide) (by omega) (by omega) (fun c => ?_) (fun c => ?_)
    · refine fr_iload_n dX8_bits_24 rfl ?_
      exact fr_iret dX8_bits_25 rfl (rfl) (rfl)
    · omega
  · intro k hk ih
    have hb := bit_r (z := v) (k := k) hv (by omega)
    have h2 := hle k
    refine fr_iload_n dX8_bits_4 rfl ?_
    refine fr_bipush dX8_bits_5 (by decide) ?_
    refine fr_icmp_ge (tgt := 24) dX8_bits_7 (by decide) (by omega) (by omega) (fun c => ?_) (fun c => ?_)
    · omega
    refine fr_iload_n dX8_bits_10 rfl ?_
    refine fr_iload_n dX8_bits_11 rfl ?_
    refine fr_iload_n dX8_bits_12 rfl ?_
    refine fr_ishr (((v / 2 ^ k : Nat) : Int)) dX8_bits_13 (hb.1) ?_
    refine fr_iconst dX8_bits_14 ?_
    refine fr_iand (((v / 2 ^ k % 2 : Nat) : Int)) dX8_bits_15 (hb.2.2) ?_
    refine fr_iadd dX8_bits_16 ?_
    refine fr_istore_n dX8_bits_17 rfl (by decide) rfl rfl ?_
    dsimp only [List.set, Option.toList, List.cons_append, List.nil_append]
    refine fr_iinc dX8_bits_18 rfl (by decide) rfl rfl ?_
    dsimp only [List.set, Option.toList, List.cons_append, List.nil_append]
    refine fr_goto (tgt := 4) dX8_bits_21 (by decide) ?_
    exact ih
theorem c_misCut {d n : Nat} {D : Nat → Nat → Int} {A B cut : Int} {w : fw_S} (hd : 1 ≤ d) (h : mA w n D A B) (hc : -2147483648 ≤ cut ∧ cut ≤ 2147483647) : fw_K d mX8_isCut [.ref 18, .int (iI cut)] w (some (.int (iI (b2 (isCut n cut))))) w := by
  have h1 := h.1
  have hn := h.2.2
  have hp := p2_le hn.2
  have hsh := iI_shl (m := 1) n (by omega) (by omega)
  rw [Nat.one_mul] at hsh
  unfold isCut
  generalize 2 ^ n = P at hp hsh ⊢
  have hin := c_in (d := 0) (w := w) (v := cut) (lo := 2) (hi := (P : Int) - 1) (by omega) (by omega) (by omega)
  have r1 := b2_r (decide (2 ≤ cut ∧ cut ≤ (P : Int) - 1))
  refine fw_K.of (by decide) (Nat.le_of_ble_eq_true rfl) (by simp [Value.category]) (rfl) ?_
  show fw_R _ _ 0 [some (.ref 18), some (.int (iI cut))] [] _ _ _
  refine fr_iload_n dX8_isCut_0 rfl ?_
  refine fr_iconst dX8_isCut_1 ?_
  refine fr_iconst dX8_isCut_2 ?_
  refine fr_aload_n dX8_isCut_3 rfl ?_
  refine fr_get fX8_isCut_4 h1 rfl ?_
  refine fr_ishl ((P : Int)) dX8_isCut_7 (hsh) ?_
  refine fr_iconst dX8_isCut_8 ?_
  refine fr_isub dX8_isCut_9 ?_
  refine fr_callS kX8_isCut_10 (hin) (by omega) rfl rfl rfl ?_
  dsimp only [List.set, Option.toList, List.cons_append, List.nil_append]
  refine fr_if_eq (tgt := 26) dX8_isCut_13 (by decide) (by omega) (fun c1 => ?_) (fun c1 => ?_)
  · have d1 := b2_0.mp c1
    simp only [decide_eq_false_iff_not] at d1
    refine fr_iconst dX8_isCut_26 ?_
    exact fr_zret dX8_isCut_27 rfl (by decide) (by rw [show decide (0 < cut ∧ cut < (P : Int) ∧ cut % 2 = 0) = false by simp only [decide_eq_false_iff_not]; omega]; rfl) (rfl)
  · have d1 := b2_n0.mp c1
    simp only [decide_eq_true_eq] at d1
    obtain ⟨m, rfl⟩ := Int.eq_ofNat_of_zero_le (show 0 ≤ cut by omega)
    have e2 : (m : Int).tmod 2 = ((m % 2 : Nat) : Int) := tm_nat m 2
    refine fr_iload_n dX8_isCut_16 rfl ?_
    refine fr_iconst dX8_isCut_17 ?_
    refine fr_irem dX8_isCut_18 (by omega) (by omega) (by omega) ?_
    rw [e2]
    refine fr_if_ne (tgt := 26) dX8_isCut_19 (by decide) (by omega) (fun c2 => ?_) (fun c2 => ?_)
    · refine fr_iconst dX8_isCut_26 ?_
      exact fr_zret dX8_isCut_27 rfl (by decide) (by rw [show decide (0 < (m : Int) ∧ (m : Int) < (P : Int) ∧ (m : Int) % 2 = 0) = false by simp only [decide_eq_false_iff_not]; omega]; rfl) (rfl)
    · refine fr_iconst dX8_isCut_22 ?_
      refine fr_goto (tgt := 27) dX8_isCut_23 (by decide) ?_
      exact fr_zret dX8_isCut_27 rfl (by decide) (by rw [show decide (0 < (m : Int) ∧ (m : Int) < (P : Int) ∧ (m : Int) % 2 = 0) = true by simp only [decide_eq_true_eq]; omega]; rfl) (rfl)
