/-! the class's own methods: line, best, centres, number, signs, least -/
theorem setF (c : Prop) [Decidable c] (a b : Int) (h : c) : (if c then a else b) = a := if_pos h
section PC3
variable {n : Nat} {D : Nat → Nat → Int} {num : Nat → Int} {w : fw_S}
theorem p_line {order i what : Int} (h : WC w n D num) (hT : okT n D) (ho : -2147483648 ≤ order ∧ order ≤ 2147483647) (hi : -2147483648 ≤ i ∧ i ≤ 2147483647) (hw : -2147483648 ≤ what ∧ what ≤ 2147483647) (z : Int) (hz : (lineC n order i what → z = if what = 0 then PLs D order.toNat n i.toNat else (stP n D order.toNat what : Int)) ∧ (¬ lineC n order i what → z = -1)) : PC mX7_line [.int (iI order), .int (iI i), .int (iI what)] w (.int (iI z)) n D num := by
  have hb := h.2.1
  have hn := hb.2.2
  obtain ⟨⟨A, B, bo, ba, bb, a13⟩, f, a14⟩ := h.2.2.2.2.2.1
  obtain ⟨ob, hob⟩ : ∃ ob : Bool, ob = true ↔ (0 ≤ order ∧ vOrd n order.toNat) := by
    by_cases q : 0 ≤ order ∧ vOrd n order.toNat
    · exact ⟨true, fun _ => q, fun _ => rfl⟩
    · exact ⟨false, fun y => (by cases y), fun y => absurd y q⟩
  have hio := c_isOrder (d := 12) (by omega) a13 hb ho ob hob
  have hip := c_hasPoint (d := 0) hb hi
  have r1 := b2_r ob
  have r3 := b2_r (decide (0 ≤ i ∧ i < (n : Int)))
  by_cases hc : lineC n order i what
  · rw [hz.1 hc]
    obtain ⟨⟨hc0, hv⟩, hcw, hci⟩ := hc
    rw [hob.mpr ⟨hc0, hv⟩] at hio
    obtain ⟨o, rfl⟩ := Int.eq_ofNat_of_zero_le hc0
    rw [Int.toNat_natCast] at hv hob ⊢
    obtain ⟨w1, f1, A1, B1, k1, k2, k3, k4, k5⟩ := c_lay (d := 12) (by omega) (show LA w n D f A B bo ba bb from ⟨a13, hb, a14⟩) hT.1 hv
    have k13 := k2.1
    have k14 := k2.2.2
    have hst := c_stretchPart (d := 12) (what := what) k2 k4.2.1 ⟨k4.1, k4.2.2.1⟩ hw
    rw [stP_eq k4.is] at hst
    have h0 := k5.g (by decide) h.1
    refine ⟨w1, ?_, h.ly ⟨⟨_, _, _, _, _, k2.1⟩, _, k2.2.2⟩ k5, k5.mono (by intro k hk; omega)⟩
    have fin : fw_R mX7_line 13 39 [some (.ref 0), some (.int (iI o)), some (.int (iI i)), some (.int (iI what))] [] w (some (.int (iI (if what = 0 then PLs D o n i.toNat else (stP n D o what : Int))))) w1 := by
      refine fr_aload_n dX7_line_39 rfl ?_
      refine fr_get fX7_line_40 h.1 rfl ?_
      refine fr_iload_n dX7_line_43 rfl ?_
      refine fr_callV kX7_line_44 (k1) (by omega) a13 rfl rfl rfl ?_
      dsimp only [List.set, Option.toList, List.cons_append, List.nil_append]
      refine fr_iload_n dX7_line_47 rfl ?_
      refine fr_if_ne (tgt := 63) dX7_line_48 (by decide) (by omega) (fun c => ?_) (fun c => ?_)
      · rw [if_neg c]
        refine fr_aload_n dX7_line_63 rfl ?_
        refine fr_get fX7_line_64 h0 rfl ?_
        refine fr_iload_n dX7_line_67 rfl ?_
        refine fr_callV kX7_line_68 (hst) (by omega) k13 rfl rfl rfl ?_
        dsimp only [List.set, Option.toList, List.cons_append, List.nil_append]
        exact fr_iret dX7_line_71 rfl (rfl) (rfl)
      · rw [if_pos c]
        obtain ⟨p, rfl⟩ := Int.eq_ofNat_of_zero_le (hci c).1
        have hpn := (hci c).2
        rw [Int.toNat_natCast, ← k3 p (by omega)]
        refine fr_aload_n dX7_line_51 rfl ?_
        refine fr_get fX7_line_52 h0 rfl ?_
        refine fr_get fX7_line_55 k13 rfl ?_
        refine fr_iload_n dX7_line_58 rfl ?_
        refine fr_iald (p) dX7_line_59 k14 (by omega) (by omega) (by decide) ?_
        refine fr_goto (tgt := 71) dX7_line_60 (by decide) ?_
        exact fr_iret dX7_line_71 rfl (rfl) (rfl)
    refine fw_K.of (by decide) (Nat.le_of_ble_eq_true rfl) (by simp [Value.category]) (k1.1) ?_
    show fw_R _ _ 0 [some (.ref 0), some (.int (iI o)), some (.int (iI i)), some (.int (iI what))] [] _ _ _
    refine fr_iload_n dX7_line_0 rfl ?_
    refine fr_if_lt (tgt := 20) dX7_line_1 (by decide) (by omega) (fun c1 => ?_) (fun c1 => ?_)
    · omega
    refine fr_iload_n dX7_line_4 rfl ?_
    refine fr_iconst dX7_line_5 ?_
    refine fr_icmp_gt (tgt := 20) dX7_line_6 (by decide) (by omega) (by omega) (fun c2 => ?_) (fun c2 => ?_)
    · omega
    refine fr_aload_n dX7_line_9 rfl ?_
    refine fr_get fX7_line_10 h.1 rfl ?_
    refine fr_iload_n dX7_line_13 rfl ?_
    refine fr_callV kX7_line_14 (hio) (by omega) a13 rfl rfl rfl ?_
    dsimp only [List.set, Option.toList, List.cons_append, List.nil_append]
    refine fr_if_ne (tgt := 22) dX7_line_17 (by decide) (by decide) (fun c3 => ?_) (fun c3 => ?_)
    rotate_left
    · exact absurd c3 (by decide)
    refine fr_iload_n dX7_line_22 rfl ?_
    refine fr_if_ne (tgt := 39) dX7_line_23 (by decide) (by omega) (fun c4 => ?_) (fun c4 => ?_)
    · exact fin
    have hpt := hci c4
    rw [decide_eq_true hpt] at hip
    refine fr_aload_n dX7_line_26 rfl ?_
    refine fr_get fX7_line_27 h.1 rfl ?_
    refine fr_iload_n dX7_line_30 rfl ?_
    refine fr_callV kX7_line_31 (hip) (by omega) hb.1 rfl rfl rfl ?_
    dsimp only [List.set, Option.toList, List.cons_append, List.nil_append]
    refine fr_if_ne (tgt := 39) dX7_line_34 (by decide) (by decide) (fun c5 => ?_) (fun c5 => ?_)
    · exact fin
    · exact absurd c5 (by decide)
  · rw [hz.2 hc]
    refine ⟨w, ?_, h, kp.rf⟩
    have bad : fw_R mX7_line 13 20 [some (.ref 0), some (.int (iI order)), some (.int (iI i)), some (.int (iI what))] [] w (some (.int (iI (-1)))) w := by
      refine fr_iconst dX7_line_20 ?_
      exact fr_iret dX7_line_21 rfl (rfl) (rfl)
    refine fw_K.of (by decide) (Nat.le_of_ble_eq_true rfl) (by simp [Value.category]) (rfl) ?_
    show fw_R _ _ 0 [some (.ref 0), some (.int (iI order)), some (.int (iI i)), some (.int (iI what))] [] _ _ _
    refine fr_iload_n dX7_line_0 rfl ?_
    refine fr_if_lt (tgt := 20) dX7_line_1 (by decide) (by omega) (fun c1 => ?_) (fun c1 => ?_)
    · exact bad
    refine fr_iload_n dX7_line_4 rfl ?_
    refine fr_iconst dX7_line_5 ?_
    refine fr_icmp_gt (tgt := 20) dX7_line_6 (by decide) (by omega) (by omega) (fun c2 => ?_) (fun c2 => ?_)
    · exact bad
    refine fr_aload_n dX7_line_9 rfl ?_
    refine fr_get fX7_line_10 h.1 rfl ?_
    refine fr_iload_n dX7_line_13 rfl ?_
    refine fr_callV kX7_line_14 (hio) (by omega) a13 rfl rfl rfl ?_
    dsimp only [List.set, Option.toList, List.cons_append, List.nil_append]
    refine fr_if_ne (tgt := 22) dX7_line_17 (by decide) (by omega) (fun c3 => ?_) (fun c3 => ?_)
    rotate_left
    · exact bad
    have q1 := hob.mp (b2_n0.mp c3)
    refine fr_iload_n dX7_line_22 rfl ?_
    refine fr_if_ne (tgt := 39) dX7_line_23 (by decide) (by omega) (fun c4 => ?_) (fun c4 => ?_)
    · exact absurd ⟨q1, by omega, fun z => absurd z c4⟩ hc
    refine fr_aload_n dX7_line_26 rfl ?_
    refine fr_get fX7_line_27 h.1 rfl ?_
    refine fr_iload_n dX7_line_30 rfl ?_
    refine fr_callV kX7_line_31 (hip) (by omega) hb.1 rfl rfl rfl ?_
    dsimp only [List.set, Option.toList, List.cons_append, List.nil_append]
    refine fr_if_ne (tgt := 39) dX7_line_34 (by decide) (by omega) (fun c5 => ?_) (fun c5 => ?_)
    · have q5 := b2_n0.mp c5
      simp only [decide_eq_true_eq] at q5
      exact absurd ⟨q1, by omega, fun _ => q5⟩ hc
    refine fr_iconst dX7_line_37 ?_
    exact fr_iret dX7_line_38 rfl (rfl) (rfl)
theorem p_best {what : Int} (h : WC w n D num) (hT : okT n D) (hw : -2147483648 ≤ what ∧ what ≤ 2147483647) : PC mX7_best [.int (iI what)] w (.int (iI (bestZ n D what))) n D num := by
  have hb := h.2.1
  have hn := hb.2.2
  by_cases hc : 0 ≤ what ∧ what ≤ 2
  · obtain ⟨⟨A, B, bo, ba, bb, a13⟩, f, a14⟩ := h.2.2.2.2.2.1
    obtain ⟨w1, f1, A1, B1, ba1, bb1, o, k1, k2, k3, k5⟩ := c_leastStretched (d := 12) (by omega) (show LA w n D f A B bo ba bb from ⟨a13, hb, a14⟩) hT.1
    have h01 := k5.g (by decide) h.1
    unfold bestZ
    rw [if_pos hc, bestO_eq k3]
    by_cases hw0 : what = 0
    · rw [if_pos hw0]
      refine ⟨w1, ?_, h.ly ⟨⟨_, _, _, _, _, k2.1⟩, _, k2.2.2⟩ k5, k5.mono (by intro k hk; omega)⟩
      refine fw_K.of (by decide) (Nat.le_of_ble_eq_true rfl) (by simp [Value.category]) (k1.1) ?_
      show fw_R _ _ 0 [some (.ref 0), some (.int (iI what)), none] [] _ _ _
      refine fr_iload_n dX7_best_0 rfl ?_
      refine fr_if_lt (tgt := 9) dX7_best_1 (by decide) (by omega) (fun c1 => ?_) (fun c1 => ?_)
      · omega
      refine fr_iload_n dX7_best_4 rfl ?_
      refine fr_iconst dX7_best_5 ?_
      refine fr_icmp_le (tgt := 11) dX7_best_6 (by decide) (by omega) (by omega) (fun c2 => ?_) (fun c2 => ?_)
      rotate_left
      · omega
      refine fr_aload_n dX7_best_11 rfl ?_
      refine fr_get fX7_best_12 h.1 rfl ?_
      refine fr_callV kX7_best_15 (k1) (by omega) a13 rfl rfl rfl ?_
      dsimp only [List.set, Option.toList, List.cons_append, List.nil_append]
      refine fr_istore_n dX7_best_18 rfl (by decide) rfl rfl ?_
      dsimp only [List.set, Option.toList, List.cons_append, List.nil_append]
      refine fr_iload_n dX7_best_19 rfl ?_
      refine fr_if_ne (tgt := 25) dX7_best_20 (by decide) (by omega) (fun c3 => ?_) (fun c3 => ?_)
      · exact absurd hw0 c3
      refine fr_iload_n dX7_best_23 rfl ?_
      exact fr_iret dX7_best_24 rfl (rfl) (rfl)
    · rw [if_neg hw0]
      obtain ⟨w2, f2, A2, B2, j1, j2, j3, j4, j5⟩ := c_lay (d := 12) (by omega) k2 hT.1 k3.v
      have hst := c_stretchPart (d := 12) (what := what) j2 j4.2.1 ⟨j4.1, j4.2.2.1⟩ hw
      rw [stP_eq j4.is] at hst
      have h02 := j5.g (by decide) h01
      have k25 := k5.trans j5
      refine ⟨w2, ?_, h.ly ⟨⟨_, _, _, _, _, j2.1⟩, _, j2.2.2⟩ k25, k25.mono (by intro k hk; omega)⟩
      refine fw_K.of (by decide) (Nat.le_of_ble_eq_true rfl) (by simp [Value.category]) (k25.1) ?_
      show fw_R _ _ 0 [some (.ref 0), some (.int (iI what)), none] [] _ _ _
      refine fr_iload_n dX7_best_0 rfl ?_
      refine fr_if_lt (tgt := 9) dX7_best_1 (by decide) (by omega) (fun c1 => ?_) (fun c1 => ?_)
      · omega
      refine fr_iload_n dX7_best_4 rfl ?_
      refine fr_iconst dX7_best_5 ?_
      refine fr_icmp_le (tgt := 11) dX7_best_6 (by decide) (by omega) (by omega) (fun c2 => ?_) (fun c2 => ?_)
      rotate_left
      · omega
      refine fr_aload_n dX7_best_11 rfl ?_
      refine fr_get fX7_best_12 h.1 rfl ?_
      refine fr_callV kX7_best_15 (k1) (by omega) a13 rfl rfl rfl ?_
      dsimp only [List.set, Option.toList, List.cons_append, List.nil_append]
      refine fr_istore_n dX7_best_18 rfl (by decide) rfl rfl ?_
      dsimp only [List.set, Option.toList, List.cons_append, List.nil_append]
      refine fr_iload_n dX7_best_19 rfl ?_
      refine fr_if_ne (tgt := 25) dX7_best_20 (by decide) (by omega) (fun c3 => ?_) (fun c3 => ?_)
      rotate_left
      · exact absurd c3 hw0
      refine fr_aload_n dX7_best_25 rfl ?_
      refine fr_get fX7_best_26 h01 rfl ?_
      refine fr_iload_n dX7_best_29 rfl ?_
      refine fr_callV kX7_best_30 (j1) (by omega) k2.1 rfl rfl rfl ?_
      dsimp only [List.set, Option.toList, List.cons_append, List.nil_append]
      refine fr_aload_n dX7_best_33 rfl ?_
      refine fr_get fX7_best_34 h02 rfl ?_
      refine fr_iload_n dX7_best_37 rfl ?_
      refine fr_callV kX7_best_38 (hst) (by omega) j2.1 rfl rfl rfl ?_
      dsimp only [List.set, Option.toList, List.cons_append, List.nil_append]
      exact fr_iret dX7_best_41 rfl (rfl) (rfl)
  · unfold bestZ
    rw [if_neg hc]
    refine ⟨w, ?_, h, kp.rf⟩
    have bad : fw_R mX7_best 13 9 [some (.ref 0), some (.int (iI what)), none] [] w (some (.int (iI (-1)))) w := by
      refine fr_iconst dX7_best_9 ?_
      exact fr_iret dX7_best_10 rfl (rfl) (rfl)
    refine fw_K.of (by decide) (Nat.le_of_ble_eq_true rfl) (by simp [Value.category]) (rfl) ?_
    show fw_R _ _ 0 [some (.ref 0), some (.int (iI what)), none] [] _ _ _
    refine fr_iload_n dX7_best_0 rfl ?_
    refine fr_if_lt (tgt := 9) dX7_best_1 (by decide) (by omega) (fun c1 => ?_) (fun c1 => ?_)
    · exact bad
    refine fr_iload_n dX7_best_4 rfl ?_
    refine fr_iconst dX7_best_5 ?_
    refine fr_icmp_le (tgt := 11) dX7_best_6 (by decide) (by omega) (by omega) (fun c2 => ?_) (fun c2 => ?_)
    · omega
    · exact bad
theorem p_centres {k what part : Int} (h : WC w n D num) (hT : okT n D) (hk : -2147483648 ≤ k ∧ k ≤ 2147483647) (hw : -2147483648 ≤ what ∧ what ≤ 2147483647) (hp : -2147483648 ≤ part ∧ part ≤ 2147483647) (z : Int) (hz : (cenC n k what part → z = if part = 0 then ((cenS 99 n D k.toNat (decide (what = 1)) (2 ^ n)).1 : Int) else (cenS 99 n D k.toNat (decide (what = 1)) (2 ^ n)).2) ∧ (¬ cenC n k what part → z = -1)) : PC mX7_centres [.int (iI k), .int (iI what), .int (iI part)] w (.int (iI z)) n D num := by
  have hb := h.2.1
  have hn := hb.2.2
  refine ⟨w, ?_, h, kp.rf⟩
  have bad : ¬ cenC n k what part → fw_R mX7_centres 13 34 [some (.ref 0), some (.int (iI k)), some (.int (iI what)), some (.int (iI part)), none] [] w (some (.int (iI z))) w := by
    intro q
    rw [hz.2 q]
    refine fr_iconst dX7_centres_34 ?_
    exact fr_iret dX7_centres_35 rfl (rfl) (rfl)
  refine fw_K.of (by decide) (Nat.le_of_ble_eq_true rfl) (by simp [Value.category]) (rfl) ?_
  show fw_R _ _ 0 [some (.ref 0), some (.int (iI k)), some (.int (iI what)), some (.int (iI part)), none] [] _ _ _
  refine fr_iload_n dX7_centres_0 rfl ?_
  refine fr_iconst dX7_centres_1 ?_
  refine fr_icmp_lt (tgt := 34) dX7_centres_2 (by decide) (by omega) (by omega) (fun c1 => ?_) (fun c1 => ?_)
  · exact bad (fun q => by have := q.1; omega)
  refine fr_iload_n dX7_centres_5 rfl ?_
  refine fr_aload_n dX7_centres_6 rfl ?_
  refine fr_get fX7_centres_7 h.1 rfl ?_
  refine fr_get fX7_centres_10 hb.1 rfl ?_
  refine fr_icmp_gt (tgt := 34) dX7_centres_13 (by decide) (by omega) (by omega) (fun c2 => ?_) (fun c2 => ?_)
  · exact bad (fun q => by have := q.1; omega)
  refine fr_iload_n dX7_centres_16 rfl ?_
  refine fr_if_lt (tgt := 34) dX7_centres_17 (by decide) (by omega) (fun c3 => ?_) (fun c3 => ?_)
  · exact bad (fun q => by have := q.2.1; omega)
  refine fr_iload_n dX7_centres_20 rfl ?_
  refine fr_iconst dX7_centres_21 ?_
  refine fr_icmp_gt (tgt := 34) dX7_centres_22 (by decide) (by omega) (by omega) (fun c4 => ?_) (fun c4 => ?_)
  · exact bad (fun q => by have := q.2.1; omega)
  refine fr_iload_n dX7_centres_25 rfl ?_
  refine fr_if_lt (tgt := 34) dX7_centres_26 (by decide) (by omega) (fun c5 => ?_) (fun c5 => ?_)
  · exact bad (fun q => by have := q.2.2; omega)
  refine fr_iload_n dX7_centres_29 rfl ?_
  refine fr_iconst dX7_centres_30 ?_
  refine fr_icmp_le (tgt := 36) dX7_centres_31 (by decide) (by omega) (by omega) (fun c6 => ?_) (fun c6 => ?_)
  rotate_left
  · exact bad (fun q => by have := q.2.2; omega)
  rw [hz.1 ⟨by omega, by omega, by omega⟩]
  obtain ⟨kk, rfl⟩ := Int.eq_ofNat_of_zero_le (show 0 ≤ k by omega)
  rw [Int.toNat_natCast]
  obtain ⟨s, hs⟩ : ∃ s, s = decide (what = 1) := ⟨_, rfl⟩
  rw [← hs]
  have h15 := h.2.2.2.2.2.2.1
  have hch : chs w 15 1 2 n D := ⟨h15, hb⟩
  have hnr := c_nearest (d := 12) (k := kk) (by omega) hch hT.1 (by omega) s
  have hsm := cen_some hn.2 hT.1 (k := kk) (by omega) s
  have heq := cen_eq hn.2 hT.1 (k := kk) (by omega) s (2 ^ n) (Nat.le_refl _)
  rw [← heq]
  have hco := c_cost (d := 12) (set := (cenS 30 n D kk s (2 ^ n)).1) (by omega) hch hT.1 hsm.2 s
  rw [← hsm.1] at hco
  generalize cenS 30 n D kk s (2 ^ n) = q at hco hnr ⊢
  have fin : fw_R mX7_centres 13 51 [some (.ref 0), some (.int (iI kk)), some (.int (iI what)), some (.int (iI part)), none] [.int (iI (b2 s)), .int (iI kk), .ref 15] w (some (.int (iI (if part = 0 then (q.1 : Int) else q.2)))) w := by
    refine fr_callV kX7_centres_51 (hnr) (by omega) h15 rfl rfl rfl ?_
    dsimp only [List.set, Option.toList, List.cons_append, List.nil_append]
    refine fr_istore dX7_centres_54 (by decide) rfl rfl ?_
    dsimp only [List.set, Option.toList, List.cons_append, List.nil_append]
    refine fr_iload_n dX7_centres_56 rfl ?_
    refine fr_if_ne (tgt := 65) dX7_centres_57 (by decide) (by omega) (fun c7 => ?_) (fun c7 => ?_)
    · rw [if_neg c7]
      refine fr_aload_n dX7_centres_65 rfl ?_
      refine fr_get fX7_centres_66 h.1 rfl ?_
      refine fr_iload dX7_centres_69 rfl ?_
      refine fr_iload_n dX7_centres_71 rfl ?_
      refine fr_iconst dX7_centres_72 ?_
      refine fr_icmp_ne (tgt := 80) dX7_centres_73 (by decide) (by omega) (by omega) (fun c8 => ?_) (fun c8 => ?_)
      · have es : s = false := by rw [hs]; simp [c8]
        subst es
        refine fr_iconst dX7_centres_80 ?_
        refine fr_callV kX7_centres_81 (hco) (by omega) h15 rfl rfl rfl ?_
        dsimp only [List.set, Option.toList, List.cons_append, List.nil_append]
        exact fr_iret dX7_centres_84 rfl (rfl) (rfl)
      · have es : s = true := by rw [hs]; simp [c8]
        subst es
        refine fr_iconst dX7_centres_76 ?_
        refine fr_goto (tgt := 81) dX7_centres_77 (by decide) ?_
        refine fr_callV kX7_centres_81 (hco) (by omega) h15 rfl rfl rfl ?_
        dsimp only [List.set, Option.toList, List.cons_append, List.nil_append]
        exact fr_iret dX7_centres_84 rfl (rfl) (rfl)
    · rw [if_pos c7]
      refine fr_iload dX7_centres_60 rfl ?_
      refine fr_goto (tgt := 84) dX7_centres_62 (by decide) ?_
      exact fr_iret dX7_centres_84 rfl (rfl) (rfl)
  refine fr_aload_n dX7_centres_36 rfl ?_
  refine fr_get fX7_centres_37 h.1 rfl ?_
  refine fr_iload_n dX7_centres_40 rfl ?_
  refine fr_iload_n dX7_centres_41 rfl ?_
  refine fr_iconst dX7_centres_42 ?_
  refine fr_icmp_ne (tgt := 50) dX7_centres_43 (by decide) (by omega) (by omega) (fun c8 => ?_) (fun c8 => ?_)
  · have es : s = false := by rw [hs]; simp [c8]
    subst es
    refine fr_iconst dX7_centres_50 ?_
    exact fin
  · have es : s = true := by rw [hs]; simp [c8]
    subst es
    refine fr_iconst dX7_centres_46 ?_
    refine fr_goto (tgt := 51) dX7_centres_47 (by decide) ?_
    exact fin
theorem p_number {i v : Int} (h : WC w n D num) (hi : -2147483648 ≤ i ∧ i ≤ 2147483647) (hv : -2147483648 ≤ v ∧ v ≤ 2147483647) : (numC i v → PC mX7_number [.int (iI i), .int (iI v)] w (.int (iI (num i.toNat))) n D (fw_u num i.toNat v)) ∧ (¬ numC i v → PC mX7_number [.int (iI i), .int (iI v)] w (.int (iI (-10000))) n D num) := by
  have h16 := h.2.2.2.2.2.2.2.1
  have h17 := h.2.2.2.2.2.2.2.2
  constructor
  · rintro ⟨hc1, hc2⟩
    obtain ⟨i, rfl⟩ := Int.eq_ofNat_of_zero_le hc1.1
    rw [Int.toNat_natCast]
    refine ⟨fw_up w 17 (.inr (10, .inl (fw_u num i v))), ?_, h.nu _, (kp.up w 17 _).mono (by intro k hk; omega)⟩
    refine fw_K.of (by decide) (Nat.le_of_ble_eq_true rfl) (by simp [Value.category]) (rfl) ?_
    show fw_R _ _ 0 [some (.ref 0), some (.int (iI i)), some (.int (iI v)), none] [] _ _ _
    refine fr_iload_n dX7_number_0 rfl ?_
    refine fr_if_lt (tgt := 24) dX7_number_1 (by decide) (by omega) (fun c1 => ?_) (fun c1 => ?_)
    · omega
    refine fr_iload_n dX7_number_4 rfl ?_
    refine fr_bipush dX7_number_5 (by decide) ?_
    refine fr_icmp_ge (tgt := 24) dX7_number_7 (by decide) (by omega) (by omega) (fun c2 => ?_) (fun c2 => ?_)
    · omega
    refine fr_iload_n dX7_number_10 rfl ?_
    refine fr_sipush dX7_number_11 (by decide) ?_
    refine fr_icmp_lt (tgt := 24) dX7_number_14 (by decide) (by omega) (by omega) (fun c3 => ?_) (fun c3 => ?_)
    · omega
    refine fr_iload_n dX7_number_17 rfl ?_
    refine fr_sipush dX7_number_18 (by decide) ?_
    refine fr_icmp_le (tgt := 28) dX7_number_21 (by decide) (by omega) (by omega) (fun c4 => ?_) (fun c4 => ?_)
    rotate_left
    · omega
    refine fr_aload_n dX7_number_28 rfl ?_
    refine fr_get fX7_number_29 h.1 rfl ?_
    refine fr_get fX7_number_32 h16 rfl ?_
    refine fr_iload_n dX7_number_35 rfl ?_
    refine fr_iald (i) dX7_number_36 h17 (by omega) (by omega) (by decide) ?_
    refine fr_istore_n dX7_number_37 rfl (by decide) rfl rfl ?_
    dsimp only [List.set, Option.toList, List.cons_append, List.nil_append]
    refine fr_aload_n dX7_number_38 rfl ?_
    refine fr_get fX7_number_39 h.1 rfl ?_
    refine fr_get fX7_number_42 h16 rfl ?_
    refine fr_iload_n dX7_number_45 rfl ?_
    refine fr_iload_n dX7_number_46 rfl ?_
    refine fr_iast (i) dX7_number_47 h17 (by omega) (by omega) (by decide) ?_
    refine fr_iload_n dX7_number_48 rfl ?_
    exact fr_iret dX7_number_49 rfl (rfl) (rfl)
  · intro hno
    refine ⟨w, ?_, h, kp.rf⟩
    have bad : fw_R mX7_number 13 24 [some (.ref 0), some (.int (iI i)), some (.int (iI v)), none] [] w (some (.int (iI (-10000)))) w := by
      refine fr_sipush dX7_number_24 (by decide) ?_
      exact fr_iret dX7_number_27 rfl (rfl) (rfl)
    refine fw_K.of (by decide) (Nat.le_of_ble_eq_true rfl) (by simp [Value.category]) (rfl) ?_
    show fw_R _ _ 0 [some (.ref 0), some (.int (iI i)), some (.int (iI v)), none] [] _ _ _
    refine fr_iload_n dX7_number_0 rfl ?_
    refine fr_if_lt (tgt := 24) dX7_number_1 (by decide) (by omega) (fun c1 => ?_) (fun c1 => ?_)
    · exact bad
    refine fr_iload_n dX7_number_4 rfl ?_
    refine fr_bipush dX7_number_5 (by decide) ?_
    refine fr_icmp_ge (tgt := 24) dX7_number_7 (by decide) (by omega) (by omega) (fun c2 => ?_) (fun c2 => ?_)
    · exact bad
    refine fr_iload_n dX7_number_10 rfl ?_
    refine fr_sipush dX7_number_11 (by decide) ?_
    refine fr_icmp_lt (tgt := 24) dX7_number_14 (by decide) (by omega) (by omega) (fun c3 => ?_) (fun c3 => ?_)
    · exact bad
    refine fr_iload_n dX7_number_17 rfl ?_
    refine fr_sipush dX7_number_18 (by decide) ?_
    refine fr_icmp_le (tgt := 28) dX7_number_21 (by decide) (by omega) (by omega) (fun c4 => ?_) (fun c4 => ?_)
    · exact absurd ⟨by omega, by omega⟩ hno
    · exact bad
theorem p_signs {c t : Int} (h : WC w n D num) (hN : okN num) (hc : -2147483648 ≤ c ∧ c ≤ 2147483647) (ht : -2147483648 ≤ t ∧ t ≤ 2147483647) : PC mX7_signs [.int (iI c), .int (iI t)] w (.int (iI (sigZ num c t))) n D num := by
  have h16 := h.2.2.2.2.2.2.2.1
  have h17 := h.2.2.2.2.2.2.2.2
  have hq := c_hasLength (d := 0) (w := w) hc
  have r1 := b2_r (decide (1 ≤ c ∧ c ≤ 10))
  refine ⟨w, ?_, h, kp.rf⟩
  unfold sigZ
  have bad : ¬ ((1 ≤ c ∧ c ≤ 10) ∧ (0 ≤ t ∧ t ≤ 10000)) → fw_R mX7_signs 13 18 [some (.ref 0), some (.int (iI c)), some (.int (iI t))] [] w (some (.int (iI (if (1 ≤ c ∧ c ≤ 10) ∧ (0 ≤ t ∧ t ≤ 10000) then cntS num c.toNat t (2 ^ c.toNat) else -1)))) w := by
    intro q
    rw [if_neg q]
    refine fr_iconst dX7_signs_18 ?_
    exact fr_iret dX7_signs_19 rfl (rfl) (rfl)
  refine fw_K.of (by decide) (Nat.le_of_ble_eq_true rfl) (by simp [Value.category]) (rfl) ?_
  show fw_R _ _ 0 [some (.ref 0), some (.int (iI c)), some (.int (iI t))] [] _ _ _
  refine fr_iload_n dX7_signs_0 rfl ?_
  refine fr_callS kX7_signs_1 (hq) (by omega) rfl rfl rfl ?_
  dsimp only [List.set, Option.toList, List.cons_append, List.nil_append]
  refine fr_if_eq (tgt := 18) dX7_signs_4 (by decide) (by omega) (fun c1 => ?_) (fun c1 => ?_)
  · have q0 := b2_0.mp c1
    simp only [decide_eq_false_iff_not] at q0
    exact bad (fun q => q0 q.1)
  have q0 := b2_n0.mp c1
  simp only [decide_eq_true_eq] at q0
  refine fr_iload_n dX7_signs_7 rfl ?_
  refine fr_if_lt (tgt := 18) dX7_signs_8 (by decide) (by omega) (fun c2 => ?_) (fun c2 => ?_)
  · exact bad (by omega)
  refine fr_iload_n dX7_signs_11 rfl ?_
  refine fr_sipush dX7_signs_12 (by decide) ?_
  refine fr_icmp_le (tgt := 20) dX7_signs_15 (by decide) (by omega) (by omega) (fun c3 => ?_) (fun c3 => ?_)
  rotate_left
  · exact bad (by omega)
  rw [if_pos ⟨q0, c2, c3⟩]
  obtain ⟨c, rfl⟩ := Int.eq_ofNat_of_zero_le (show 0 ≤ c by omega)
  rw [Int.toNat_natCast]
  refine fr_aload_n dX7_signs_20 rfl ?_
  refine fr_get fX7_signs_21 h.1 rfl ?_
  refine fr_iload_n dX7_signs_24 rfl ?_
  refine fr_iload_n dX7_signs_25 rfl ?_
  refine fr_callV kX7_signs_26 (c_rowsWithin (d := 12) (c := c) (t := t) (by omega) h16 h17 hN (by omega) (by omega)) (by omega) h16 rfl rfl rfl ?_
  dsimp only [List.set, Option.toList, List.cons_append, List.nil_append]
  exact fr_iret dX7_signs_29 rfl (rfl) (rfl)
theorem p_least {c what : Int} (h : WC w n D num) (hN : okN num) (hc : -2147483648 ≤ c ∧ c ≤ 2147483647) (ht : -2147483648 ≤ what ∧ what ≤ 2147483647) : PC mX7_least [.int (iI c), .int (iI what)] w (.int (iI (lstZ num c what))) n D num := by
  have h16 := h.2.2.2.2.2.2.2.1
  have h17 := h.2.2.2.2.2.2.2.2
  have hq := c_hasLength (d := 0) (w := w) hc
  have r1 := b2_r (decide (1 ≤ c ∧ c ≤ 10))
  refine ⟨w, ?_, h, kp.rf⟩
  unfold lstZ
  have bad : ¬ ((1 ≤ c ∧ c ≤ 10) ∧ (0 ≤ what ∧ what ≤ 1)) → fw_R mX7_least 13 16 [some (.ref 0), some (.int (iI c)), some (.int (iI what)), none] [] w (some (.int (iI (if (1 ≤ c ∧ c ≤ 10) ∧ (0 ≤ what ∧ what ≤ 1) then (if what = 0 then (bstS num c.toNat (2 ^ c.toNat - 1) : Int) else szS num c.toNat (bstS num c.toNat (2 ^ c.toNat - 1))) else -1)))) w := by
    intro q
    rw [if_neg q]
    refine fr_iconst dX7_least_16 ?_
    exact fr_iret dX7_least_17 rfl (rfl) (rfl)
  refine fw_K.of (by decide) (Nat.le_of_ble_eq_true rfl) (by simp [Value.category]) (rfl) ?_
  show fw_R _ _ 0 [some (.ref 0), some (.int (iI c)), some (.int (iI what)), none] [] _ _ _
  refine fr_iload_n dX7_least_0 rfl ?_
  refine fr_callS kX7_least_1 (hq) (by omega) rfl rfl rfl ?_
  dsimp only [List.set, Option.toList, List.cons_append, List.nil_append]
  refine fr_if_eq (tgt := 16) dX7_least_4 (by decide) (by omega) (fun c1 => ?_) (fun c1 => ?_)
  · have q0 := b2_0.mp c1
    simp only [decide_eq_false_iff_not] at q0
    exact bad (fun q => q0 q.1)
  have q0 := b2_n0.mp c1
  simp only [decide_eq_true_eq] at q0
  refine fr_iload_n dX7_least_7 rfl ?_
  refine fr_if_lt (tgt := 16) dX7_least_8 (by decide) (by omega) (fun c2 => ?_) (fun c2 => ?_)
  · exact bad (by omega)
  refine fr_iload_n dX7_least_11 rfl ?_
  refine fr_iconst dX7_least_12 ?_
  refine fr_icmp_le (tgt := 18) dX7_least_13 (by decide) (by omega) (by omega) (fun c3 => ?_) (fun c3 => ?_)
  rotate_left
  · exact bad (by omega)
  rw [if_pos ⟨q0, c2, c3⟩]
  obtain ⟨c, rfl⟩ := Int.eq_ofNat_of_zero_le (show 0 ≤ c by omega)
  rw [Int.toNat_natCast]
  have hp := p10_le (c := c) (by omega)
  have hle := bstS_le num c (2 ^ c - 1)
  have hsz := c_size (d := 12) (c := c) (row := bstS num c (2 ^ c - 1)) (by omega) h16 h17 hN (by omega) (by omega)
  have hsr := c_smallestRow (d := 12) (c := c) (by omega) h16 h17 hN (by omega)
  generalize bstS num c (2 ^ c - 1) = row at hsz hsr ⊢
  refine fr_aload_n dX7_least_18 rfl ?_
  refine fr_get fX7_least_19 h.1 rfl ?_
  refine fr_iload_n dX7_least_22 rfl ?_
  refine fr_callV kX7_least_23 (hsr) (by omega) h16 rfl rfl rfl ?_
  dsimp only [List.set, Option.toList, List.cons_append, List.nil_append]
  refine fr_istore_n dX7_least_26 rfl (by decide) rfl rfl ?_
  dsimp only [List.set, Option.toList, List.cons_append, List.nil_append]
  refine fr_iload_n dX7_least_27 rfl ?_
  refine fr_if_ne (tgt := 35) dX7_least_28 (by decide) (by omega) (fun c4 => ?_) (fun c4 => ?_)
  · rw [if_neg c4]
    refine fr_aload_n dX7_least_35 rfl ?_
    refine fr_get fX7_least_36 h.1 rfl ?_
    refine fr_iload_n dX7_least_39 rfl ?_
    refine fr_iload_n dX7_least_40 rfl ?_
    refine fr_callV kX7_least_41 (hsz) (by omega) h16 rfl rfl rfl ?_
    dsimp only [List.set, Option.toList, List.cons_append, List.nil_append]
    exact fr_iret dX7_least_44 rfl (rfl) (rfl)
  · rw [if_pos c4]
    refine fr_iload_n dX7_least_31 rfl ?_
    refine fr_goto (tgt := 44) dX7_least_32 (by decide) ?_
    exact fr_iret dX7_least_44 rfl (rfl) (rfl)
end PC3
