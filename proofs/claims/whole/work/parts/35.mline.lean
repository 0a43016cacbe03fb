/-! the reference: peel, left; lines -/
noncomputable def lawB (n : Nat) (D : Nat → Nat → Int) : Bool := @decide (met n (fun i j => 2 * D i j)) (Classical.propDecidable _)
theorem lawB_iff (n : Nat) (D : Nat → Nat → Int) : lawB n D = true ↔ met n (fun i j => 2 * D i j) := by unfold lawB; simp
/-- what a good table is -/
def okT (n : Nat) (D : Nat → Nat → Int) : Prop := okR n D 30 ∧ sym n D ∧ (∀ i, i < n → D i i = 0)
theorem cut_s {n : Nat} (hn : 2 ≤ n ∧ n ≤ 6) {cut : Int} (h : isCut n cut = true) : ∃ s : Nat, cut = ((2 * (s + 1) : Nat) : Int) ∧ s < 2 ^ (n - 1) - 1 := by
  unfold isCut at h
  simp only [decide_eq_true_eq] at h
  have hp := p2_half hn
  refine ⟨(cut / 2 - 1).toNat, ?_, ?_⟩ <;> omega
theorem c_mpeel {d n : Nat} {D : Nat → Nat → Int} {A B cut : Int} {w : fw_S} (hd : 3 ≤ d) (h : mp w n D A B) (hT : okT n D) (hc : -2147483648 ≤ cut ∧ cut ≤ 2147483647) (z : Int) (hz : (∀ s, s < 2 ^ (n - 1) - 1 → cut = ((2 * (s + 1) : Nat) : Int) → z = plM n D (lawB n D) s) ∧ (isCut n cut = false → z = -1)) : ∃ w', fw_K d mX8_peel [.ref 18, .int (iI cut)] w (some (.int (iI z))) w' ∧ mp w' n D A B ∧ kp w w' (fun k => k = 20 ∨ k = 21) := by
  have h1 := h.1.1
  have hn := h.1.2.2
  have hic := c_misCut (d := 1) (by omega) h.1 hc
  cases hb : isCut n cut with
  | false =>
    rw [hb] at hic
    rw [hz.2 hb]
    refine ⟨w, ?_, h, kp.rf⟩
    refine fw_K.of (by decide) (Nat.le_of_ble_eq_true rfl) (by simp [Value.category]) (rfl) ?_
    show fw_R _ _ 0 [some (.ref 18), some (.int (iI cut))] [] _ _ _
    refine fr_aload_n dX8_peel_0 rfl ?_
    refine fr_iload_n dX8_peel_1 rfl ?_
    refine fr_callV kX8_peel_2 (hic) (by omega) h1 rfl rfl rfl ?_
    dsimp only [List.set, Option.toList, List.cons_append, List.nil_append]
    refine fr_if_ne (tgt := 10) dX8_peel_5 (by decide) (by decide) (fun c => ?_) (fun c => ?_)
    · exact absurd rfl c
    · refine fr_iconst dX8_peel_8 ?_
      exact fr_iret dX8_peel_9 rfl (rfl) (rfl)
  | true =>
    rw [hb] at hic
    obtain ⟨s, hs, hlt⟩ := cut_s hn hb
    rw [hz.1 s hlt hs]
    obtain ⟨w1, k1, k2, -, ⟨f, k3, k4⟩, k5⟩ := c_peelAll (d := d - 1) (by omega) h hT.1 hT.2.1 hT.2.2 (lawB n D) (lawB_iff n D)
    have hp := p2_half hn
    have hp64 := p2_le hn.2
    have k21 := k2.1.1
    refine ⟨w1, ?_, k2, k5⟩
    subst hs
    refine fw_K.of (by decide) (Nat.le_of_ble_eq_true rfl) (by simp [Value.category]) (k5.1) ?_
    show fw_R _ _ 0 [some (.ref 18), some (.int (iI ((2 * (s + 1) : Nat) : Int)))] [] _ _ _
    refine fr_aload_n dX8_peel_0 rfl ?_
    refine fr_iload_n dX8_peel_1 rfl ?_
    refine fr_callV kX8_peel_2 (hic) (by omega) h1 rfl rfl rfl ?_
    dsimp only [List.set, Option.toList, List.cons_append, List.nil_append]
    refine fr_if_ne (tgt := 10) dX8_peel_5 (by decide) (by decide) (fun c => ?_) (fun c => ?_)
    · refine fr_aload_n dX8_peel_10 rfl ?_
      refine fr_callV kX8_peel_11 (k1) (by omega) h1 rfl rfl rfl ?_
      dsimp only [List.set, Option.toList, List.cons_append, List.nil_append]
      refine fr_aload_n dX8_peel_14 rfl ?_
      refine fr_get fX8_peel_15 k21 rfl ?_
      refine fr_iload_n dX8_peel_18 rfl ?_
      refine fr_iald (2 * (s + 1)) dX8_peel_19 k3 (by omega) (by omega) (by decide) ?_
      rw [k4 s hlt]
      exact fr_iret dX8_peel_20 rfl (rfl) (rfl)
    · exact absurd c (by decide)
theorem c_mleft {d n : Nat} {D : Nat → Nat → Int} {A B i j : Int} {w : fw_S} (hd : 3 ≤ d) (h : mp w n D A B) (hT : okT n D) (hi : -2147483648 ≤ i ∧ i ≤ 2147483647) (hj : -2147483648 ≤ j ∧ j ≤ 2147483647) (z : Int) (hz : (isPr n i j → z = plE n D (lawB n D) (2 ^ (n - 1) - 1) i.toNat j.toNat) ∧ (¬ isPr n i j → z = -1)) : ∃ w', fw_K d mX8_left [.ref 18, .int (iI i), .int (iI j)] w (some (.int (iI z))) w' ∧ mp w' n D A B ∧ kp w w' (fun k => k = 20 ∨ k = 21) := by
  have h1 := h.1.1
  have hn := h.1.2.2
  have hpi := c_misPoint (d := 1) (by omega) h.1 hi
  have hpj := c_misPoint (d := 1) (by omega) h.1 hj
  have r1 := b2_r (decide (0 ≤ i ∧ i < (n : Int)))
  have r2 := b2_r (decide (0 ≤ j ∧ j < (n : Int)))
  by_cases hc : isPr n i j
  · rw [hz.1 hc]
    obtain ⟨p, rfl⟩ := Int.eq_ofNat_of_zero_le hc.1.1
    obtain ⟨q, rfl⟩ := Int.eq_ofNat_of_zero_le hc.2.1
    have hpn := hc.1.2
    have hqn := hc.2.2
    obtain ⟨w1, k1, k2, ⟨f, k3, k4⟩, -, k5⟩ := c_peelAll (d := d - 1) (by omega) h hT.1 hT.2.1 hT.2.2 (lawB n D) (lawB_iff n D)
    have k21 := k2.1.1
    refine ⟨w1, ?_, k2, k5⟩
    rw [Int.toNat_natCast, Int.toNat_natCast]
    refine fw_K.of (by decide) (Nat.le_of_ble_eq_true rfl) (by simp [Value.category]) (k5.1) ?_
    show fw_R _ _ 0 [some (.ref 18), some (.int (iI p)), some (.int (iI q))] [] _ _ _
    refine fr_aload_n dX8_left_0 rfl ?_
    refine fr_iload_n dX8_left_1 rfl ?_
    refine fr_callV kX8_left_2 (hpi) (by omega) h1 rfl rfl rfl ?_
    dsimp only [List.set, Option.toList, List.cons_append, List.nil_append]
    refine fr_if_eq (tgt := 16) dX8_left_5 (by decide) (by omega) (fun c1 => ?_) (fun c1 => ?_)
    · have d1 := b2_0.mp c1
      simp only [decide_eq_false_iff_not] at d1
      exact absurd hc.1 d1
    refine fr_aload_n dX8_left_8 rfl ?_
    refine fr_iload_n dX8_left_9 rfl ?_
    refine fr_callV kX8_left_10 (hpj) (by omega) h1 rfl rfl rfl ?_
    dsimp only [List.set, Option.toList, List.cons_append, List.nil_append]
    refine fr_if_ne (tgt := 18) dX8_left_13 (by decide) (by omega) (fun c2 => ?_) (fun c2 => ?_)
    · refine fr_aload_n dX8_left_18 rfl ?_
      refine fr_callV kX8_left_19 (k1) (by omega) h1 rfl rfl rfl ?_
      dsimp only [List.set, Option.toList, List.cons_append, List.nil_append]
      refine fr_aload_n dX8_left_22 rfl ?_
      refine fr_get fX8_left_23 k21 rfl ?_
      refine fr_bipush dX8_left_26 (by decide) ?_
      refine fr_iload_n dX8_left_28 rfl ?_
      refine fr_imul dX8_left_29 ?_
      refine fr_iload_n dX8_left_30 rfl ?_
      refine fr_iadd dX8_left_31 ?_
      refine fr_iald (6 * p + q) dX8_left_32 k3 (by omega) (by omega) (by decide) ?_
      rw [k4 p q (by omega) (by omega)]
      exact fr_iret dX8_left_33 rfl (rfl) (rfl)
    · have d1 := b2_0.mp c2
      simp only [decide_eq_false_iff_not] at d1
      exact absurd hc.2 d1
  · rw [hz.2 hc]
    refine ⟨w, ?_, h, kp.rf⟩
    have fin : fw_R mX8_left d 16 [some (.ref 18), some (.int (iI i)), some (.int (iI j))] [] w (some (.int (iI (-1)))) w := by
      refine fr_iconst dX8_left_16 ?_
      exact fr_iret dX8_left_17 rfl (rfl) (rfl)
    refine fw_K.of (by decide) (Nat.le_of_ble_eq_true rfl) (by simp [Value.category]) (rfl) ?_
    show fw_R _ _ 0 [some (.ref 18), some (.int (iI i)), some (.int (iI j))] [] _ _ _
    refine fr_aload_n dX8_left_0 rfl ?_
    refine fr_iload_n dX8_left_1 rfl ?_
    refine fr_callV kX8_left_2 (hpi) (by omega) h1 rfl rfl rfl ?_
    dsimp only [List.set, Option.toList, List.cons_append, List.nil_append]
    refine fr_if_eq (tgt := 16) dX8_left_5 (by decide) (by omega) (fun c1 => ?_) (fun c1 => ?_)
    · exact fin
    refine fr_aload_n dX8_left_8 rfl ?_
    refine fr_iload_n dX8_left_9 rfl ?_
    refine fr_callV kX8_left_10 (hpj) (by omega) h1 rfl rfl rfl ?_
    dsimp only [List.set, Option.toList, List.cons_append, List.nil_append]
    refine fr_if_ne (tgt := 18) dX8_left_13 (by decide) (by omega) (fun c2 => ?_) (fun c2 => ?_)
    · have d1 := b2_n0.mp c1
      have d2 := b2_n0.mp c2
      simp only [decide_eq_true_eq] at d1 d2
      exact absurd ⟨d1, d2⟩ hc
    · exact fin
theorem pt7 {x : Int32} : ∃ p : Nat, p < 8 ∧ x &&& iI 7 = iI p := by
  have h := pk_and x (m := iI 7) 3 (by decide)
  exact ⟨x.toBitVec.toNat % 2 ^ 3, Nat.mod_lt _ (by decide), by rw [h, iI_nat]⟩
theorem pA_r {o t : Nat} (ho : o ≤ 2147483647) (ht : t ≤ 9) : iI o >>> (iI (3 * (t : Int)) &&& 31) = iI ((o / 2 ^ (3 * t) : Nat) : Int) ∧ iI ((o / 2 ^ (3 * t) : Nat) : Int) &&& iI 7 = iI (pAt o t) := by
  have hshr := iI_shr (z := (o : Int)) (3 * t) (by omega) (by omega)
  have e0 : ((o : Int) / 2 ^ (3 * t)) = ((o / 2 ^ (3 * t) : Nat) : Int) := by norm_cast
  rw [e0] at hshr
  have hle := Nat.div_le_self o (2 ^ (3 * t))
  refine ⟨?_, iI_andp (m := o / 2 ^ (3 * t)) 3 (by decide) (by omega)⟩
  rw [show (3 : Int) * (t : Int) = ((3 * t : Nat) : Int) by omega]
  exact hshr
theorem or256 {a b : Nat} (ha : a < 256) (hb : b < 8) : a ||| 2 ^ b < 256 := by
  have h3 : 2 ^ b < 2 ^ 8 := Nat.pow_lt_pow_right (by decide) hb
  exact Nat.or_lt_two_pow (n := 8) ha h3
theorem c_misOrder {d n : Nat} {D : Nat → Nat → Int} {A B order : Int} {w : fw_S} (h : mA w n D A B) (hr : -2147483648 ≤ order ∧ order ≤ 2147483647) (ob : Bool) (hob : ob = true ↔ (0 ≤ order ∧ vOrd n order.toNat)) : fw_K d mX8_isOrder [.ref 18, .int (iI order)] w (some (.int (iI (b2 ob)))) w := by
  have h1 := h.1
  have hn := h.2.2
  have hp := p2_le hn.2
  have hp1 : 1 ≤ 2 ^ n := Nat.one_le_two_pow
  have hno : ¬ (0 ≤ order ∧ vOrd n order.toNat) → ob = false := fun z => by
    cases hb : ob with
    | false => rfl
    | true => exact absurd (hob.mp hb) z
  refine fw_K.of (by decide) (Nat.le_of_ble_eq_true rfl) (by simp [Value.category]) (rfl) ?_
  show fw_R _ _ 0 [some (.ref 18), some (.int (iI order)), none, none] [] _ _ _
  refine fr_iconst dX8_isOrder_0 ?_
  refine fr_istore_n dX8_isOrder_1 rfl (by decide) rfl rfl ?_
  dsimp only [List.set, Option.toList, List.cons_append, List.nil_append]
  refine fr_iconst dX8_isOrder_2 ?_
  refine fr_istore_n dX8_isOrder_3 rfl (by decide) rfl rfl ?_
  dsimp only [List.set, Option.toList, List.cons_append, List.nil_append]
  by_cases hneg : order < 0
  · -- whatever it meets
    have := up_loop (fun t => ∀ mk : Nat, mk < 256 → fw_R mX8_isOrder d 4 [some (.ref 18), some (.int (iI order)), some (.int (iI mk)), some (.int (iI t))] [] w (some (.int (iI (b2 ob)))) w) n (by
      intro mk hmk
      refine fr_iload_n dX8_isOrder_4 rfl ?_
      refine fr_aload_n dX8_isOrder_5 rfl ?_
      refine fr_get fX8_isOrder_6 h1 rfl ?_
      refine fr_icmp_ge (tgt := 31) dX8_isOrder_9 (by decide) (by omega) (by omega) (fun c => ?_) (fun c => ?_)
      · refine fr_iload_n dX8_isOrder_31 rfl ?_
        refine fr_if_lt (tgt := 62) dX8_isOrder_32 (by decide) (by omega) (fun c2 => ?_) (fun c2 => ?_)
        · rw [hno (by omega)]
          refine fr_iconst dX8_isOrder_62 ?_
          exact fr_zret dX8_isOrder_63 rfl (by decide) (rfl) (rfl)
        · omega
      · omega) (by
      intro t ht ih mk hmk
      obtain ⟨p, hp8, hpe⟩ := pt7 (x := iI ((iI order >>> (iI (3 * (t : Int)) &&& 31)).toInt))
      have hs := iI_shl (m := 1) p (by rw [Nat.one_mul]; have : 2 ^ p ≤ 2 ^ 8 := Nat.pow_le_pow_right (by decide) (by omega); omega) (by omega)
      rw [Nat.one_mul] at hs
      refine fr_iload_n dX8_isOrder_4 rfl ?_
      refine fr_aload_n dX8_isOrder_5 rfl ?_
      refine fr_get fX8_isOrder_6 h1 rfl ?_
      refine fr_icmp_ge (tgt := 31) dX8_isOrder_9 (by decide) (by omega) (by omega) (fun c => ?_) (fun c => ?_)
      · omega
      refine fr_iload_n dX8_isOrder_12 rfl ?_
      refine fr_iconst dX8_isOrder_13 ?_
      refine fr_iload_n dX8_isOrder_14 rfl ?_
      refine fr_iconst dX8_isOrder_15 ?_
      refine fr_iload_n dX8_isOrder_16 rfl ?_
      refine fr_imul dX8_isOrder_17 ?_
      refine fr_ishr (((iI order >>> (iI (3 * (t : Int)) &&& 31)).toInt)) dX8_isOrder_18 ((iI_toInt _).symm) ?_
      refine fr_bipush dX8_isOrder_19 (by decide) ?_
      refine fr_iand ((p : Int)) dX8_isOrder_21 (hpe) ?_
      refine fr_ishl (((2 ^ p : Nat) : Int)) dX8_isOrder_22 (hs) ?_
      refine fr_ior (((mk ||| 2 ^ p : Nat) : Int)) dX8_isOrder_23 (iI_or _ _) ?_
      refine fr_istore_n dX8_isOrder_24 rfl (by decide) rfl rfl ?_
      dsimp only [List.set, Option.toList, List.cons_append, List.nil_append]
      refine fr_iinc dX8_isOrder_25 rfl (by decide) rfl rfl ?_
      dsimp only [List.set, Option.toList, List.cons_append, List.nil_append]
      refine fr_goto (tgt := 4) dX8_isOrder_28 (by decide) ?_
      exact ih _ (or256 hmk hp8))
    exact this 0 (Nat.zero_le _) 0 (by decide)
  obtain ⟨o, rfl⟩ := Int.eq_ofNat_of_zero_le (show 0 ≤ order by omega)
  rw [Int.toNat_natCast] at hob hno
  have hshn := iI_shl (m := 1) n (by rw [Nat.one_mul]; omega) (by omega)
  rw [Nat.one_mul] at hshn
  have hsh3 := (pA_r (o := o) (t := n) (by omega) (by omega)).1
  refine up_loop (fun t => fw_R mX8_isOrder d 4 [some (.ref 18), some (.int (iI o)), some (.int (iI (msk o t))), some (.int (iI t))] [] w (some (.int (iI (b2 ob)))) w) n ?_ ?_ 0 (Nat.zero_le _)
  · have hm := msk_lt o n
    have hdv := Nat.div_le_self o (2 ^ (3 * n))
    have hlt : o / 2 ^ (3 * n) = 0 ↔ o < 2 ^ (3 * n) := by
      rw [Nat.div_eq_zero_iff]
      have := Nat.two_pow_pos (3 * n)
      omega
    unfold vOrd at hob hno
    refine fr_iload_n dX8_isOrder_4 rfl ?_
    refine fr_aload_n dX8_isOrder_5 rfl ?_
    refine fr_get fX8_isOrder_6 h1 rfl ?_
    refine fr_icmp_ge (tgt := 31) dX8_isOrder_9 (by decide) (by omega) (by omega) (fun c3 => ?_) (fun c3 => ?_)
    rotate_left
    · omega
    refine fr_iload_n dX8_isOrder_31 rfl ?_
    refine fr_if_lt (tgt := 62) dX8_isOrder_32 (by decide) (by omega) (fun c4 => ?_) (fun c4 => ?_)
    · omega
    refine fr_iload_n dX8_isOrder_35 rfl ?_
    refine fr_iconst dX8_isOrder_36 ?_
    refine fr_aload_n dX8_isOrder_37 rfl ?_
    refine fr_get fX8_isOrder_38 h1 rfl ?_
    refine fr_imul dX8_isOrder_41 ?_
    refine fr_ishr (((o / 2 ^ (3 * n) : Nat) : Int)) dX8_isOrder_42 (hsh3) ?_
    have fin : ob = false → fw_R mX8_isOrder d 62 [some (.ref 18), some (.int (iI o)), some (.int (iI (msk o n))), some (.int (iI n))] [] w (some (.int (iI (b2 ob)))) w := by
      intro z
      rw [z]
      refine fr_iconst dX8_isOrder_62 ?_
      exact fr_zret dX8_isOrder_63 rfl (by decide) (rfl) (rfl)
    generalize o / 2 ^ (3 * n) = Q at hdv hlt hsh3 ⊢
    refine fr_if_ne (tgt := 62) dX8_isOrder_43 (by decide) (by omega) (fun c5 => ?_) (fun c5 => ?_)
    · exact fin (hno (fun z => by have := hlt.mpr z.2.1; omega))
    refine fr_iload_n dX8_isOrder_46 rfl ?_
    refine fr_iconst dX8_isOrder_47 ?_
    refine fr_aload_n dX8_isOrder_48 rfl ?_
    refine fr_get fX8_isOrder_49 h1 rfl ?_
    refine fr_ishl (((2 ^ n : Nat) : Int)) dX8_isOrder_52 (hshn) ?_
    refine fr_iconst dX8_isOrder_53 ?_
    refine fr_isub dX8_isOrder_54 ?_
    generalize 2 ^ n = P at *
    refine fr_icmp_ne (tgt := 62) dX8_isOrder_55 (by decide) (by omega) (by omega) (fun c6 => ?_) (fun c6 => ?_)
    · exact fin (hno (fun z => c6 (by have := z.2.2; omega)))
    · rw [hob.mpr ⟨by omega, hlt.mp (by omega), by omega⟩]
      refine fr_iconst dX8_isOrder_58 ?_
      refine fr_goto (tgt := 63) dX8_isOrder_59 (by decide) ?_
      exact fr_zret dX8_isOrder_63 rfl (by decide) (rfl) (rfl)
  · intro t ht ih
    have hpa := pAt_lt o t
    have hpr := pA_r (o := o) (t := t) (by omega) (by omega)
    have hs := iI_shl (m := 1) (pAt o t) (by rw [Nat.one_mul]; have : 2 ^ pAt o t ≤ 2 ^ 8 := Nat.pow_le_pow_right (by decide) (by omega); omega) (by omega)
    rw [Nat.one_mul] at hs
    rw [msk_s] at ih
    refine fr_iload_n dX8_isOrder_4 rfl ?_
    refine fr_aload_n dX8_isOrder_5 rfl ?_
    refine fr_get fX8_isOrder_6 h1 rfl ?_
    refine fr_icmp_ge (tgt := 31) dX8_isOrder_9 (by decide) (by omega) (by omega) (fun c3 => ?_) (fun c3 => ?_)
    · omega
    refine fr_iload_n dX8_isOrder_12 rfl ?_
    refine fr_iconst dX8_isOrder_13 ?_
    refine fr_iload_n dX8_isOrder_14 rfl ?_
    refine fr_iconst dX8_isOrder_15 ?_
    refine fr_iload_n dX8_isOrder_16 rfl ?_
    refine fr_imul dX8_isOrder_17 ?_
    refine fr_ishr (((o / 2 ^ (3 * t) : Nat) : Int)) dX8_isOrder_18 (hpr.1) ?_
    refine fr_bipush dX8_isOrder_19 (by decide) ?_
    refine fr_iand ((pAt o t : Int)) dX8_isOrder_21 (hpr.2) ?_
    refine fr_ishl (((2 ^ pAt o t : Nat) : Int)) dX8_isOrder_22 (hs) ?_
    refine fr_ior (((msk o t ||| 2 ^ pAt o t : Nat) : Int)) dX8_isOrder_23 (iI_or _ _) ?_
    refine fr_istore_n dX8_isOrder_24 rfl (by decide) rfl rfl ?_
    dsimp only [List.set, Option.toList, List.cons_append, List.nil_append]
    refine fr_iinc dX8_isOrder_25 rfl (by decide) rfl rfl ?_
    dsimp only [List.set, Option.toList, List.cons_append, List.nil_append]
    refine fr_goto (tgt := 4) dX8_isOrder_28 (by decide) ?_
    exact ih
def mB (w : fw_S) (n : Nat) (D : Nat → Nat → Int) (A B : Nat) (f : Nat → Int) : Prop := mA w n D A B ∧ fw_g w 25 (.inr (6, .inl f))
theorem mB.up {w : fw_S} {n : Nat} {D : Nat → Nat → Int} {A B : Nat} {f : Nat → Int} (h : mB w n D A B f) (A' B' : Nat) : mB (fw_up w 18 (mE n A' B')) n D A' B' f := ⟨h.1.up A' B', h.2.ne _ (by decide)⟩
theorem c_lays {d n o A B : Nat} {D : Nat → Nat → Int} {f : Nat → Int} {w : fw_S} (hd : 1 ≤ d) (h : mB w n D A B f) (hD : okR n D 30) (hs : sym n D) (ho : vOrd n o) : ∃ (w' : fw_S) (f' : Nat → Int) (A' B' : Nat), fw_K d mX8_lays [.ref 18, .int (iI o)] w none w' ∧ mB w' n D A' B' f' ∧ (∀ i, i < n → f' i = PLs D o n i) ∧ stI n D (PLs D o n) (fun _ _ => True) A' B' ∧ kp w w' (fun k => k = 18 ∨ k = 25) := by
  have hn := h.1.2.2
  have hp3 := p3_le (t := n) (by omega)
  have ho1 := ho.1
  have hon := ho.on.2
  have hPr := PLs_r hD hon
  -- the places
  have lay := lpE (M := mX8_lays) (d := d) (pcH := 2) n (fun t _ => [some (.ref 18), some (.int (iI o)), some (.int (iI t)), none, none, none, none]) (fun t (_ : Unit) v => (∃ g, mB v n D A B g ∧ ∀ e, e < t → g (pAt o e) = PLs D o t (pAt o e)) ∧ kp w v (fun k => k = 25)) (by
    intro t _ v ht ⟨⟨g, ⟨gA, g25⟩, g2⟩, g3⟩
    have hpt := hon t ht
    have hpr := hPr t (by omega)
    have hpa := pA_r (o := o) (t := t) (by omega) (by omega)
    obtain ⟨p, hp⟩ : ∃ p, p = pAt o t := ⟨_, rfl⟩
    have hpne : ∀ e, e < t → pAt o e ≠ p := fun e he z => by
      have := ho.inj (e := e) (e' := t) (by omega) ht (by rw [z, hp])
      omega
    rw [← hp] at hpt hpa
    have u25 := g25.up (.inr (6, .inl (fw_u g p 0)))
    have uA := gA.kp (kp.up v 25 (.inr (6, .inl (fw_u g p 0)))) (by decide) (by decide)
    have inner := lpE (M := mX8_lays) (d := d) (pcH := 29) t (fun i _ => [some (.ref 18), some (.int (iI o)), some (.int (iI t)), some (.int (iI p)), some (.int (iI i)), none, none]) (fun i (_ : Unit) v' => (∃ g', mB v' n D A B g' ∧ g' p = mxP D o (PLs D o t) p i ∧ ∀ e, e < t → g' (pAt o e) = PLs D o t (pAt o e)) ∧ kp v v' (fun k => k = 25)) (by
      intro i _ v' hi ⟨⟨g', ⟨qA, q25⟩, q1, q2⟩, q3⟩
      have q11 := qA.1
      have hpi := hon i (by omega)
      have hpai := pA_r (o := o) (t := i) (by omega) (by omega)
      have hdi := hD (pAt o i) p hpi hpt
      have hmx := mxP_r hD (o := o) (g := PLs D o t) (p := p) (B := 30 * (t : Int)) hpt (by omega) (t := i) (fun e he => ⟨hon e (by omega), hpr _⟩)
      have hgi := q2 i hi
      have hpri := hpr (pAt o i)
      refine ⟨(), fw_up v' 25 (.inr (6, .inl (fw_u g' p (mxP D o (PLs D o t) p (i + 1))))), ⟨⟨_, ⟨qA.kp (kp.up v' 25 _) (by decide) (by decide), q25.up _⟩, by rw [fw_u_self], fun e he => by rw [fw_u_ne _ _ (hpne e he)]; exact q2 e he⟩, q3.trans (kp.up _ _ _)⟩, ?_⟩
      intro r w' kk
      rw [mxP_s, ← hgi, ← q1] at kk
      rw [← q1] at hmx
      rw [← hgi] at hpri
      refine fr_iload dX8_lays_29 rfl ?_
      refine fr_iload_n dX8_lays_31 rfl ?_
      refine fr_icmp_ge (tgt := 97) dX8_lays_32 (by decide) (by omega) (by omega) (fun c => ?_) (fun c => ?_)
      · omega
      refine fr_iload_n dX8_lays_35 rfl ?_
      refine fr_iconst dX8_lays_36 ?_
      refine fr_iload dX8_lays_37 rfl ?_
      refine fr_imul dX8_lays_39 ?_
      refine fr_ishr (((o / 2 ^ (3 * i) : Nat) : Int)) dX8_lays_40 (hpai.1) ?_
      refine fr_bipush dX8_lays_41 (by decide) ?_
      refine fr_iand ((pAt o i : Int)) dX8_lays_43 (hpai.2) ?_
      refine fr_istore dX8_lays_44 (by decide) rfl rfl ?_
      dsimp only [List.set, Option.toList, List.cons_append, List.nil_append]
      refine fr_aload_n dX8_lays_46 rfl ?_
      refine fr_get fX8_lays_47 q11 rfl ?_
      refine fr_iload dX8_lays_50 rfl ?_
      refine fr_iald ((pAt o i)) dX8_lays_52 q25 (by omega) (by omega) (by decide) ?_
      refine fr_aload_n dX8_lays_53 rfl ?_
      refine fr_iload dX8_lays_54 rfl ?_
      refine fr_iload_n dX8_lays_56 rfl ?_
      refine fr_callV kX8_lays_57 (c_mdist (d := 0) qA hpi hpt) (by omega) q11 rfl rfl rfl ?_
      dsimp only [List.set, Option.toList, List.cons_append, List.nil_append]
      refine fr_iadd dX8_lays_60 ?_
      refine fr_istore dX8_lays_61 (by decide) rfl rfl ?_
      dsimp only [List.set, Option.toList, List.cons_append, List.nil_append]
      refine fr_aload_n dX8_lays_63 rfl ?_
      refine fr_get fX8_lays_64 q11 rfl ?_
      refine fr_iload_n dX8_lays_67 rfl ?_
      refine fr_iload dX8_lays_68 rfl ?_
      refine fr_aload_n dX8_lays_70 rfl ?_
      refine fr_get fX8_lays_71 q11 rfl ?_
      refine fr_iload_n dX8_lays_74 rfl ?_
      refine fr_iald (p) dX8_lays_75 q25 (by omega) (by omega) (by decide) ?_
      refine fr_icmp_le (tgt := 84) dX8_lays_76 (by decide) (by omega) (by omega) (fun c => ?_) (fun c => ?_)
      · rw [Int.max_eq_left (by omega)] at kk
        refine fr_aload_n dX8_lays_84 rfl ?_
        refine fr_get fX8_lays_85 q11 rfl ?_
        refine fr_iload_n dX8_lays_88 rfl ?_
        refine fr_iald (p) dX8_lays_89 q25 (by omega) (by omega) (by decide) ?_
        refine fr_iast (p) dX8_lays_90 q25 (by omega) (by omega) (by decide) ?_
        refine fr_iinc dX8_lays_91 rfl (by decide) rfl rfl ?_
        dsimp only [List.set, Option.toList, List.cons_append, List.nil_append]
        refine fr_goto (tgt := 29) dX8_lays_94 (by decide) ?_
        exact kk.wk (by simp [fw_le])
      · rw [Int.max_eq_right (by omega)] at kk
        refine fr_iload dX8_lays_79 rfl ?_
        refine fr_goto (tgt := 90) dX8_lays_81 (by decide) ?_
        refine fr_iast (p) dX8_lays_90 q25 (by omega) (by omega) (by decide) ?_
        refine fr_iinc dX8_lays_91 rfl (by decide) rfl rfl ?_
        dsimp only [List.set, Option.toList, List.cons_append, List.nil_append]
        refine fr_goto (tgt := 29) dX8_lays_94 (by decide) ?_
        exact kk.wk (by simp [fw_le]))
    obtain ⟨_, v2, ⟨⟨g2', e1, e2, e3⟩, e4⟩, hr⟩ := inner 0 () (fw_up v 25 (.inr (6, .inl (fw_u g p 0)))) (Nat.zero_le _) ⟨⟨_, ⟨uA, u25⟩, by rw [fw_u_self]; rfl, fun e he => by rw [fw_u_ne _ _ (hpne e he)]; exact g2 e he⟩, kp.up _ _ _⟩
    refine ⟨(), v2, ⟨⟨g2', e1, fun e he => ?_⟩, g3.trans e4⟩, ?_⟩
    · rw [PLs_s, ← hp]
      by_cases q : e = t
      · rw [q, ← hp, fw_u_self, e2]
      · rw [fw_u_ne _ _ (hpne e (by omega)), e3 e (by omega)]
    · intro r w' kk
      have g11 := gA.1
      refine fr_iload_n dX8_lays_2 rfl ?_
      refine fr_aload_n dX8_lays_3 rfl ?_
      refine fr_get fX8_lays_4 g11 rfl ?_
      refine fr_icmp_ge (tgt := 103) dX8_lays_7 (by decide) (by omega) (by omega) (fun c => ?_) (fun c => ?_)
      · omega
      refine fr_iload_n dX8_lays_10 rfl ?_
      refine fr_iconst dX8_lays_11 ?_
      refine fr_iload_n dX8_lays_12 rfl ?_
      refine fr_imul dX8_lays_13 ?_
      refine fr_ishr (((o / 2 ^ (3 * t) : Nat) : Int)) dX8_lays_14 (hpa.1) ?_
      refine fr_bipush dX8_lays_15 (by decide) ?_
      refine fr_iand ((p : Int)) dX8_lays_17 (hpa.2) ?_
      refine fr_istore_n dX8_lays_18 rfl (by decide) rfl rfl ?_
      dsimp only [List.set, Option.toList, List.cons_append, List.nil_append]
      refine fr_aload_n dX8_lays_19 rfl ?_
      refine fr_get fX8_lays_20 g11 rfl ?_
      refine fr_iload_n dX8_lays_23 rfl ?_
      refine fr_iconst dX8_lays_24 ?_
      refine fr_iast (p) dX8_lays_25 g25 (by omega) (by omega) (by decide) ?_
      refine fr_iconst dX8_lays_26 ?_
      refine fr_istore dX8_lays_27 (by decide) rfl rfl ?_
      dsimp only [List.set, Option.toList, List.cons_append, List.nil_append]
      refine hr r w' ?_
      refine fr_iload dX8_lays_29 rfl ?_
      refine fr_iload_n dX8_lays_31 rfl ?_
      refine fr_icmp_ge (tgt := 97) dX8_lays_32 (by decide) (by omega) (by omega) (fun c => ?_) (fun c => ?_)
      · refine fr_iinc dX8_lays_97 rfl (by decide) rfl rfl ?_
        dsimp only [List.set, Option.toList, List.cons_append, List.nil_append]
        refine fr_goto (tgt := 2) dX8_lays_100 (by decide) ?_
        exact kk.wk (by simp [fw_le])
      · omega)
  obtain ⟨_, w1, ⟨⟨g, ⟨a1, a25⟩, a2⟩, a3⟩, hr1⟩ := lay 0 () w (Nat.zero_le _) ⟨⟨f, h, fun e he => absurd he (Nat.not_lt_zero e)⟩, kp.rf⟩
  have hg : ∀ i, i < n → g i = PLs D o n i := fun i hi => by
    obtain ⟨e, he, rfl⟩ := ho.on.1 i hi
    exact a2 e he
  have hgr : ∀ k, k < n → 0 ≤ g k ∧ g k ≤ 200 := fun k hk => by rw [hg k hk]; have := hPr n (Nat.le_refl n) k; omega
  -- the stretch
  have mes := lpE (M := mX8_lays) (d := d) (pcH := 115) n (fun i _ => [some (.ref 18), some (.int (iI o)), some (.int (iI i)), none, none, none, none]) (fun i (_ : Unit) v => (∃ A' B' : Nat, mB v n D A' B' g ∧ stI n D g (fun _ j' => j' < i) A' B') ∧ kp w1 v (fun k => k = 18)) (by
    intro i _ v hi ⟨⟨A', B', g1, g2⟩, g3⟩
    have inner := lpE (M := mX8_lays) (d := d) (pcH := 125) i (fun j _ => [some (.ref 18), some (.int (iI o)), some (.int (iI i)), some (.int (iI j)), none, none, none]) (fun j (_ : Unit) v => (∃ A' B' : Nat, mB v n D A' B' g ∧ stI n D g (fun i' j' => j' < i ∨ j' = i ∧ i' < j) A' B') ∧ kp w1 v (fun k => k = 18)) (by
      intro j _ v hj ⟨⟨A', B', g1, g2⟩, g3⟩
      have g11 := g1.1.1
      have g14 := g1.2
      have d1 := hD i j hi (by omega)
      have hsij := hs i j hi (by omega)
      have pp1 := hgr i hi
      have pp2 := hgr j (by omega)
      have b1 := g2.1
      have b2' := g2.2.1
      have b3 := g2.2.2.1
      have hadd := g2.add (Q' := fun i' j' => j' < i ∨ j' = i ∧ i' < j + 1) hD hgr (i := j) (j := i) (by omega) hi hj (fun i' j' q => by omega)
      rw [← hsij] at hadd
      have hna : (((g j - g i).natAbs : Nat) : Int) = ((g i - g j).natAbs : Nat) := by omega
      have m1 := mul_r (x := (((g j - g i).natAbs : Nat) : Int)) (y := (B' : Int)) (c := 200) (e := 30) (by omega) (by omega) (by omega)
      have m2 := mul_r (x := (A' : Int)) (y := D i j) (c := 200) (e := 30) (by omega) (by omega) (by omega)
      have hdd := c_mdist (d := 0) g1.1 hi (show j < n by omega)
      -- the two points' distance on the line
      have K158 : ∀ r w', fw_R mX8_lays d 160 [some (.ref 18), some (.int (iI o)), some (.int (iI i)), some (.int (iI j)), some (.int (iI (((g j - g i).natAbs : Nat) : Int))), none, none] [] v r w' → fw_R mX8_lays d 125 [some (.ref 18), some (.int (iI o)), some (.int (iI i)), some (.int (iI j)), none, none, none] [] v r w' := by
        intro r w' kk
        refine fr_iload_n dX8_lays_125 rfl ?_
        refine fr_iload_n dX8_lays_126 rfl ?_
        refine fr_icmp_ge (tgt := 212) dX8_lays_127 (by decide) (by omega) (by omega) (fun c => ?_) (fun c => ?_)
        · omega
        refine fr_aload_n dX8_lays_130 rfl ?_
        refine fr_get fX8_lays_131 g11 rfl ?_
        refine fr_iload_n dX8_lays_134 rfl ?_
        refine fr_iald (i) dX8_lays_135 g14 (by omega) (by omega) (by decide) ?_
        refine fr_aload_n dX8_lays_136 rfl ?_
        refine fr_get fX8_lays_137 g11 rfl ?_
        refine fr_iload_n dX8_lays_140 rfl ?_
        refine fr_iald (j) dX8_lays_141 g14 (by omega) (by omega) (by decide) ?_
        refine fr_isub dX8_lays_142 ?_
        refine fr_istore dX8_lays_143 (by decide) rfl rfl ?_
        dsimp only [List.set, Option.toList, List.cons_append, List.nil_append]
        refine fr_iload dX8_lays_145 rfl ?_
        refine fr_if_ge (tgt := 156) dX8_lays_147 (by decide) (by omega) (fun c2 => ?_) (fun c2 => ?_)
        · refine fr_iload dX8_lays_156 rfl ?_
          refine fr_istore dX8_lays_158 (by decide) rfl rfl ?_
          dsimp only [List.set, Option.toList, List.cons_append, List.nil_append]
          rw [show g i - g j = (((g j - g i).natAbs : Nat) : Int) by omega]
          exact kk
        · refine fr_iload dX8_lays_150 rfl ?_
          refine fr_ineg dX8_lays_152 ?_
          refine fr_goto (tgt := 158) dX8_lays_153 (by decide) ?_
          refine fr_istore dX8_lays_158 (by decide) rfl rfl ?_
          dsimp only [List.set, Option.toList, List.cons_append, List.nil_append]
          rw [show -(g i - g j) = (((g j - g i).natAbs : Nat) : Int) by omega]
          exact kk
      by_cases hc : 0 < D i j ∧ (A' : Int) * D i j < ((g j - g i).natAbs : Int) * B'
      · obtain ⟨hst, ed⟩ := hadd.1 hc
        have u1 := g1.up (g j - g i).natAbs B'
        have u2 := u1.up (g j - g i).natAbs (D i j).toNat
        have u11 := u1.1.1
        refine ⟨(), _, ⟨⟨_, _, u2, hst⟩, (g3.trans (kp.up _ _ _)).trans (kp.up _ _ _)⟩, ?_⟩
        intro r w' kk
        unfold mE at kk u2 u11
        rw [ed] at kk
        have hdd2 := c_mdist (d := 0) u1.1 hi (show j < n by omega)
        unfold mE at hdd2
        refine K158 r w' ?_
        refine fr_aload_n dX8_lays_160 rfl ?_
        refine fr_iload_n dX8_lays_161 rfl ?_
        refine fr_iload_n dX8_lays_162 rfl ?_
        refine fr_callV kX8_lays_163 (hdd) (by omega) g11 rfl rfl rfl ?_
        dsimp only [List.set, Option.toList, List.cons_append, List.nil_append]
        refine fr_if_le (tgt := 206) dX8_lays_166 (by decide) (by omega) (fun c => ?_) (fun c => ?_)
        · omega
        refine fr_iload dX8_lays_169 rfl ?_
        refine fr_aload_n dX8_lays_171 rfl ?_
        refine fr_get fX8_lays_172 g11 rfl ?_
        refine fr_imul dX8_lays_175 ?_
        refine fr_aload_n dX8_lays_176 rfl ?_
        refine fr_get fX8_lays_177 g11 rfl ?_
        refine fr_aload_n dX8_lays_180 rfl ?_
        refine fr_iload_n dX8_lays_181 rfl ?_
        refine fr_iload_n dX8_lays_182 rfl ?_
        refine fr_callV kX8_lays_183 (hdd) (by omega) g11 rfl rfl rfl ?_
        dsimp only [List.set, Option.toList, List.cons_append, List.nil_append]
        refine fr_imul dX8_lays_186 ?_
        refine fr_icmp_le (tgt := 206) dX8_lays_187 (by decide) (by omega) (by omega) (fun c => ?_) (fun c => ?_)
        · omega
        refine fr_aload_n dX8_lays_190 rfl ?_
        refine fr_iload dX8_lays_191 rfl ?_
        refine fr_put fX8_lays_193 pfX8_8 g11 (by simp) rfl ?_
        dsimp only [List.set, Option.toList, List.cons_append, List.nil_append]
        refine fr_aload_n dX8_lays_196 rfl ?_
        refine fr_aload_n dX8_lays_197 rfl ?_
        refine fr_iload_n dX8_lays_198 rfl ?_
        refine fr_iload_n dX8_lays_199 rfl ?_
        refine fr_callV kX8_lays_200 (hdd2) (by omega) u11 rfl rfl rfl ?_
        dsimp only [List.set, Option.toList, List.cons_append, List.nil_append]
        refine fr_put fX8_lays_203 pfX8_9 u11 (by simp) rfl ?_
        dsimp only [List.set, Option.toList, List.cons_append, List.nil_append]
        refine fr_iinc dX8_lays_206 rfl (by decide) rfl rfl ?_
        dsimp only [List.set, Option.toList, List.cons_append, List.nil_append]
        refine fr_goto (tgt := 125) dX8_lays_209 (by decide) ?_
        exact kk.wk (by simp [fw_le])
      · refine ⟨(), v, ⟨⟨A', B', g1, hadd.2 hc⟩, g3⟩, ?_⟩
        intro r w' kk
        have done : fw_R mX8_lays d 206 [some (.ref 18), some (.int (iI o)), some (.int (iI i)), some (.int (iI j)), some (.int (iI (((g j - g i).natAbs : Nat) : Int))), none, none] [] v r w' := by
          refine fr_iinc dX8_lays_206 rfl (by decide) rfl rfl ?_
          dsimp only [List.set, Option.toList, List.cons_append, List.nil_append]
          refine fr_goto (tgt := 125) dX8_lays_209 (by decide) ?_
          exact kk.wk (by simp [fw_le])
        refine K158 r w' ?_
        refine fr_aload_n dX8_lays_160 rfl ?_
        refine fr_iload_n dX8_lays_161 rfl ?_
        refine fr_iload_n dX8_lays_162 rfl ?_
        refine fr_callV kX8_lays_163 (hdd) (by omega) g11 rfl rfl rfl ?_
        dsimp only [List.set, Option.toList, List.cons_append, List.nil_append]
        refine fr_if_le (tgt := 206) dX8_lays_166 (by decide) (by omega) (fun c => ?_) (fun c => ?_)
        · exact done
        refine fr_iload dX8_lays_169 rfl ?_
        refine fr_aload_n dX8_lays_171 rfl ?_
        refine fr_get fX8_lays_172 g11 rfl ?_
        refine fr_imul dX8_lays_175 ?_
        refine fr_aload_n dX8_lays_176 rfl ?_
        refine fr_get fX8_lays_177 g11 rfl ?_
        refine fr_aload_n dX8_lays_180 rfl ?_
        refine fr_iload_n dX8_lays_181 rfl ?_
        refine fr_iload_n dX8_lays_182 rfl ?_
        refine fr_callV kX8_lays_183 (hdd) (by omega) g11 rfl rfl rfl ?_
        dsimp only [List.set, Option.toList, List.cons_append, List.nil_append]
        refine fr_imul dX8_lays_186 ?_
        refine fr_icmp_le (tgt := 206) dX8_lays_187 (by decide) (by omega) (by omega) (fun c2 => ?_) (fun c2 => ?_)
        · exact done
        · exact absurd ⟨c, c2⟩ hc)
    obtain ⟨_, wE, ⟨⟨A2, B2, e1, e2⟩, e3⟩, hr⟩ := inner 0 () v (Nat.zero_le _) ⟨⟨A', B', g1, g2.mono (fun i' j' _ _ hij q => by omega)⟩, g3⟩
    refine ⟨(), wE, ⟨⟨A2, B2, e1, e2.mono (fun i' j' _ hj' hij q => by omega)⟩, e3⟩, ?_⟩
    intro r w' kk
    have g11 := g1.1.1
    refine fr_iload_n dX8_lays_115 rfl ?_
    refine fr_aload_n dX8_lays_116 rfl ?_
    refine fr_get fX8_lays_117 g11 rfl ?_
    refine fr_icmp_ge (tgt := 218) dX8_lays_120 (by decide) (by omega) (by omega) (fun c => ?_) (fun c => ?_)
    · omega
    refine fr_iconst dX8_lays_123 ?_
    refine fr_istore_n dX8_lays_124 rfl (by decide) rfl rfl ?_
    dsimp only [List.set, Option.toList, List.cons_append, List.nil_append]
    refine hr r w' ?_
    refine fr_iload_n dX8_lays_125 rfl ?_
    refine fr_iload_n dX8_lays_126 rfl ?_
    refine fr_icmp_ge (tgt := 212) dX8_lays_127 (by decide) (by omega) (by omega) (fun c => ?_) (fun c => ?_)
    · refine fr_iinc dX8_lays_212 rfl (by decide) rfl rfl ?_
      dsimp only [List.set, Option.toList, List.cons_append, List.nil_append]
      refine fr_goto (tgt := 115) dX8_lays_215 (by decide) ?_
      exact kk.wk (by simp [fw_le])
    · omega)
  have b0 : mB w1 n D A B g := ⟨a1, a25⟩
  have u1 := b0.up 0 B
  have u2 := u1.up 0 1
  obtain ⟨_, w2, ⟨⟨A2, B2, e1, e2⟩, e3⟩, hr2⟩ := mes 0 () _ (Nat.zero_le _) ⟨⟨0, 1, u2, by omega, by omega, by omega, fun i j _ _ _ q => absurd q (Nat.not_lt_zero j), Or.inl ⟨rfl, rfl⟩⟩, (kp.up _ _ _).trans (kp.up _ _ _)⟩
  have kall : kp w w2 (fun k => k = 18 ∨ k = 25) := (a3.mono (fun k hk => Or.inr hk)).trans (e3.mono (fun k hk => Or.inl hk))
  refine ⟨w2, g, A2, B2, ?_, e1, hg, (e2.mono (fun i j _ hj _ _ => hj)).cg hg, kall⟩
  have a11 := a1.1
  have u11 := u1.1.1
  have e11 := e1.1.1
  unfold mE at hr2 u11
  refine fw_K.of (by decide) (Nat.le_of_ble_eq_true rfl) (by simp [Value.category]) (kall.1) ?_
  show fw_R _ _ 0 [some (.ref 18), some (.int (iI o)), none, none, none, none, none] [] _ _ _
  refine fr_iconst dX8_lays_0 ?_
  refine fr_istore_n dX8_lays_1 rfl (by decide) rfl rfl ?_
  dsimp only [List.set, Option.toList, List.cons_append, List.nil_append]
  refine hr1 _ _ ?_
  refine fr_iload_n dX8_lays_2 rfl ?_
  refine fr_aload_n dX8_lays_3 rfl ?_
  refine fr_get fX8_lays_4 a11 rfl ?_
  refine fr_icmp_ge (tgt := 103) dX8_lays_7 (by decide) (by omega) (by omega) (fun c => ?_) (fun c => ?_)
  rotate_left
  · omega
  refine fr_aload_n dX8_lays_103 rfl ?_
  refine fr_iconst dX8_lays_104 ?_
  refine fr_put fX8_lays_105 pfX8_8 a11 (by simp) rfl ?_
  dsimp only [List.set, Option.toList, List.cons_append, List.nil_append]
  refine fr_aload_n dX8_lays_108 rfl ?_
  refine fr_iconst dX8_lays_109 ?_
  refine fr_put fX8_lays_110 pfX8_9 u11 (by simp) rfl ?_
  dsimp only [List.set, Option.toList, List.cons_append, List.nil_append]
  refine fr_iconst dX8_lays_113 ?_
  refine fr_istore_n dX8_lays_114 rfl (by decide) rfl rfl ?_
  dsimp only [List.set, Option.toList, List.cons_append, List.nil_append]
  refine (hr2 _ _ ?_).wk (by simp [fw_le])
  refine fr_iload_n dX8_lays_115 rfl ?_
  refine fr_aload_n dX8_lays_116 rfl ?_
  refine fr_get fX8_lays_117 e11 rfl ?_
  refine fr_icmp_ge (tgt := 218) dX8_lays_120 (by decide) (by omega) (by omega) (fun c => ?_) (fun c => ?_)
  · exact fr_vret dX8_lays_218 rfl rfl (rfl)
  · omega
