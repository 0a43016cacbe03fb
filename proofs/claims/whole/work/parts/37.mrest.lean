/-! the reference: centres, numbers, signs -/
theorem c_mworthOf {d n set : Nat} {D : Nat → Nat → Int} {A B what : Int} {w : fw_S} (hd : 1 ≤ d) (h : mA w n D A B) (hD : okR n D 30) (hs : set < 64) (hw : 0 ≤ what ∧ what ≤ 1) : fw_K d mX8_worthOf [.ref 18, .int (iI set), .int (iI what)] w (some (.int (iI (costA 99 n D (decide (what = 1)) set)))) w := by
  have h1 := h.1
  have hn := h.2.2
  refine fw_K.of (by decide) (Nat.le_of_ble_eq_true rfl) (by simp [Value.category]) (rfl) ?_
  show fw_R _ _ 0 [some (.ref 18), some (.int (iI set)), some (.int (iI what)), none, none, none, none, none] [] _ _ _
  refine fr_iconst dX8_worthOf_0 ?_
  refine fr_istore_n dX8_worthOf_1 rfl (by decide) rfl rfl ?_
  dsimp only [List.set, Option.toList, List.cons_append, List.nil_append]
  refine fr_iconst dX8_worthOf_2 ?_
  refine fr_istore dX8_worthOf_3 (by decide) rfl rfl ?_
  dsimp only [List.set, Option.toList, List.cons_append, List.nil_append]
  refine fr_iconst dX8_worthOf_5 ?_
  refine fr_istore dX8_worthOf_6 (by decide) rfl rfl ?_
  dsimp only [List.set, Option.toList, List.cons_append, List.nil_append]
  refine up_loop (fun i => fw_R mX8_worthOf d 8 [some (.ref 18), some (.int (iI set)), some (.int (iI what)), some (.int (iI (costS 99 n D set i))), some (.int (iI (costM 99 n D set i))), some (.int (iI i)), none, none] [] w (some (.int (iI (costA 99 n D (decide (what = 1)) set)))) w) n ?_ ?_ 0 (Nat.zero_le _)
  · refine fr_iload dX8_worthOf_8 rfl ?_
    refine fr_aload_n dX8_worthOf_10 rfl ?_
    refine fr_get fX8_worthOf_11 h1 rfl ?_
    refine fr_icmp_ge (tgt := 104) dX8_worthOf_14 (by decide) (by omega) (by omega) (fun c => ?_) (fun c => ?_)
    · refine fr_iload_n dX8_worthOf_104 rfl ?_
      refine fr_if_ne (tgt := 113) dX8_worthOf_105 (by decide) (by omega) (fun c2 => ?_) (fun c2 => ?_)
      · refine fr_iload_n dX8_worthOf_113 rfl ?_
        exact fr_iret dX8_worthOf_114 rfl (by rw [costA, if_pos (by simp; omega)]) (rfl)
      · refine fr_iload dX8_worthOf_108 rfl ?_
        refine fr_goto (tgt := 114) dX8_worthOf_110 (by decide) ?_
        exact fr_iret dX8_worthOf_114 rfl (by rw [costA, if_neg (by simp; omega)]) (rfl)
    · omega
  · intro i hi ih
    have hr := cost_r hD (top := 99) (by omega) set i (by omega)
    have hw := nearW_r hD (top := 99) (by omega) set hi n (Nat.le_refl n)
    rw [costS_s, costM_s] at ih
    have fin : fw_R mX8_worthOf d 77 [some (.ref 18), some (.int (iI set)), some (.int (iI what)), some (.int (iI (costS 99 n D set i))), some (.int (iI (costM 99 n D set i))), some (.int (iI i)), some (.int (iI (nearW 99 D set i n))), none] [] w (some (.int (iI (costA 99 n D (decide (what = 1)) set)))) w := by
      refine fr_iload_n dX8_worthOf_77 rfl ?_
      refine fr_iload dX8_worthOf_78 rfl ?_
      refine fr_iadd dX8_worthOf_80 ?_
      refine fr_istore_n dX8_worthOf_81 rfl (by decide) rfl rfl ?_
      dsimp only [List.set, Option.toList, List.cons_append, List.nil_append]
      refine fr_iload dX8_worthOf_82 rfl ?_
      refine fr_iload dX8_worthOf_84 rfl ?_
      refine fr_icmp_le (tgt := 94) dX8_worthOf_86 (by decide) (by omega) (by omega) (fun c => ?_) (fun c => ?_)
      · rw [Int.max_eq_left (by omega)] at ih
        refine fr_iload dX8_worthOf_94 rfl ?_
        refine fr_istore dX8_worthOf_96 (by decide) rfl rfl ?_
        dsimp only [List.set, Option.toList, List.cons_append, List.nil_append]
        refine fr_iinc dX8_worthOf_98 rfl (by decide) rfl rfl ?_
        dsimp only [List.set, Option.toList, List.cons_append, List.nil_append]
        refine fr_goto (tgt := 8) dX8_worthOf_101 (by decide) ?_
        exact ih.wk (by simp [fw_le])
      · rw [Int.max_eq_right (by omega)] at ih
        refine fr_iload dX8_worthOf_89 rfl ?_
        refine fr_goto (tgt := 96) dX8_worthOf_91 (by decide) ?_
        refine fr_istore dX8_worthOf_96 (by decide) rfl rfl ?_
        dsimp only [List.set, Option.toList, List.cons_append, List.nil_append]
        refine fr_iinc dX8_worthOf_98 rfl (by decide) rfl rfl ?_
        dsimp only [List.set, Option.toList, List.cons_append, List.nil_append]
        refine fr_goto (tgt := 8) dX8_worthOf_101 (by decide) ?_
        exact ih.wk (by simp [fw_le])
    refine fr_iload dX8_worthOf_8 rfl ?_
    refine fr_aload_n dX8_worthOf_10 rfl ?_
    refine fr_get fX8_worthOf_11 h1 rfl ?_
    refine fr_icmp_ge (tgt := 104) dX8_worthOf_14 (by decide) (by omega) (by omega) (fun c => ?_) (fun c => ?_)
    · omega
    refine fr_bipush dX8_worthOf_17 (by decide) ?_
    refine fr_istore dX8_worthOf_19 (by decide) rfl rfl ?_
    dsimp only [List.set, Option.toList, List.cons_append, List.nil_append]
    refine fr_iconst dX8_worthOf_21 ?_
    refine fr_istore dX8_worthOf_22 (by decide) rfl rfl ?_
    dsimp only [List.set, Option.toList, List.cons_append, List.nil_append]
    refine up_loop (fun j => fw_R mX8_worthOf d 24 [some (.ref 18), some (.int (iI set)), some (.int (iI what)), some (.int (iI (costS 99 n D set i))), some (.int (iI (costM 99 n D set i))), some (.int (iI i)), some (.int (iI (nearW 99 D set i j))), some (.int (iI j))] [] w (some (.int (iI (costA 99 n D (decide (what = 1)) set)))) w) n ?_ ?_ 0 (Nat.zero_le _)
    · refine fr_iload dX8_worthOf_24 rfl ?_
      refine fr_aload_n dX8_worthOf_26 rfl ?_
      refine fr_get fX8_worthOf_27 h1 rfl ?_
      refine fr_icmp_ge (tgt := 77) dX8_worthOf_30 (by decide) (by omega) (by omega) (fun c2 => ?_) (fun c2 => ?_)
      · exact fin.wk (by simp [fw_le])
      · omega
    · intro j hj ihj
      have hb := bit_r (z := set) (k := j) (by omega) (by omega)
      have rb := b2_r (set.testBit j)
      have hnr := nearW_r hD (top := 99) (by omega) set hi j (by omega)
      have hdr := hD i j hi hj
      rw [nearW_s] at ihj
      have same : nearW 99 D set i j = (if set.testBit j = true then min (nearW 99 D set i j) (D i j) else nearW 99 D set i j) → fw_R mX8_worthOf d 67 [some (.ref 18), some (.int (iI set)), some (.int (iI what)), some (.int (iI (costS 99 n D set i))), some (.int (iI (costM 99 n D set i))), some (.int (iI i)), some (.int (iI (nearW 99 D set i j))), some (.int (iI j))] [] w (some (.int (iI (costA 99 n D (decide (what = 1)) set)))) w := by
        intro e
        rw [← e] at ihj
        refine fr_iload dX8_worthOf_67 rfl ?_
        refine fr_istore dX8_worthOf_69 (by decide) rfl rfl ?_
        dsimp only [List.set, Option.toList, List.cons_append, List.nil_append]
        refine fr_iinc dX8_worthOf_71 rfl (by decide) rfl rfl ?_
        dsimp only [List.set, Option.toList, List.cons_append, List.nil_append]
        refine fr_goto (tgt := 24) dX8_worthOf_74 (by decide) ?_
        exact ihj
      refine fr_iload dX8_worthOf_24 rfl ?_
      refine fr_aload_n dX8_worthOf_26 rfl ?_
      refine fr_get fX8_worthOf_27 h1 rfl ?_
      refine fr_icmp_ge (tgt := 77) dX8_worthOf_30 (by decide) (by omega) (by omega) (fun c2 => ?_) (fun c2 => ?_)
      · omega
      refine fr_iload_n dX8_worthOf_33 rfl ?_
      refine fr_iload dX8_worthOf_34 rfl ?_
      refine fr_ishr (((set / 2 ^ j : Nat) : Int)) dX8_worthOf_36 (hb.1) ?_
      refine fr_iconst dX8_worthOf_37 ?_
      refine fr_iand (b2 (set.testBit j)) dX8_worthOf_38 (hb.2.1) ?_
      refine fr_iconst dX8_worthOf_39 ?_
      refine fr_icmp_ne (tgt := 67) dX8_worthOf_40 (by decide) (by omega) (by omega) (fun c3 => ?_) (fun c3 => ?_)
      · refine same ?_
        rw [if_neg (fun z => by rw [z] at c3; exact absurd rfl c3)]
      · have hbt : set.testBit j = true := by cases hz : set.testBit j with
          | true => rfl
          | false => rw [hz] at c3; exact absurd c3 (by decide)
        refine fr_aload_n dX8_worthOf_43 rfl ?_
        refine fr_iload dX8_worthOf_44 rfl ?_
        refine fr_iload dX8_worthOf_46 rfl ?_
        refine fr_callV kX8_worthOf_48 (c_mdist (d := 0) h hi hj) (by omega) h1 rfl rfl rfl ?_
        dsimp only [List.set, Option.toList, List.cons_append, List.nil_append]
        refine fr_iload dX8_worthOf_51 rfl ?_
        refine fr_icmp_ge (tgt := 67) dX8_worthOf_53 (by decide) (by omega) (by omega) (fun c4 => ?_) (fun c4 => ?_)
        · refine same ?_
          rw [if_pos hbt, Int.min_eq_left (by omega)]
        · rw [if_pos hbt, Int.min_eq_right (by omega)] at ihj
          refine fr_aload_n dX8_worthOf_56 rfl ?_
          refine fr_iload dX8_worthOf_57 rfl ?_
          refine fr_iload dX8_worthOf_59 rfl ?_
          refine fr_callV kX8_worthOf_61 (c_mdist (d := 0) h hi hj) (by omega) h1 rfl rfl rfl ?_
          dsimp only [List.set, Option.toList, List.cons_append, List.nil_append]
          refine fr_goto (tgt := 69) dX8_worthOf_64 (by decide) ?_
          refine fr_istore dX8_worthOf_69 (by decide) rfl rfl ?_
          dsimp only [List.set, Option.toList, List.cons_append, List.nil_append]
          refine fr_iinc dX8_worthOf_71 rfl (by decide) rfl rfl ?_
          dsimp only [List.set, Option.toList, List.cons_append, List.nil_append]
          refine fr_goto (tgt := 24) dX8_worthOf_74 (by decide) ?_
          exact ihj
/-- what centres asks -/
def cenC (n : Nat) (k what part : Int) : Prop := (1 ≤ k ∧ k ≤ n) ∧ (0 ≤ what ∧ what ≤ 1) ∧ (0 ≤ part ∧ part ≤ 1)
theorem c_mcentres {d n : Nat} {D : Nat → Nat → Int} {A B k what part : Int} {w : fw_S} (hd : 2 ≤ d) (h : mA w n D A B) (hD : okR n D 30) (hk : -2147483648 ≤ k ∧ k ≤ 2147483647) (hw : -2147483648 ≤ what ∧ what ≤ 2147483647) (hp : -2147483648 ≤ part ∧ part ≤ 2147483647) (z : Int) (hz : (cenC n k what part → z = if part = 0 then ((cenS 99 n D k.toNat (decide (what = 1)) (2 ^ n)).1 : Int) else (cenS 99 n D k.toNat (decide (what = 1)) (2 ^ n)).2) ∧ (¬ cenC n k what part → z = -1)) : fw_K d mX8_centres [.ref 18, .int (iI k), .int (iI what), .int (iI part)] w (some (.int (iI z))) w := by
  have h1 := h.1
  have hn := h.2.2
  have i1 := c_in (d := 0) (w := w) (v := k) (lo := 1) (hi := (n : Int)) hk (by omega) (by omega)
  have i2 := c_in (d := 0) (w := w) (v := what) (lo := 0) (hi := 1) hw (by omega) (by omega)
  have i3 := c_in (d := 0) (w := w) (v := part) (lo := 0) (hi := 1) hp (by omega) (by omega)
  have r1 := b2_r (decide (1 ≤ k ∧ k ≤ (n : Int)))
  have r2 := b2_r (decide (0 ≤ what ∧ what ≤ 1))
  have r3 := b2_r (decide (0 ≤ part ∧ part ≤ 1))
  have bad : ¬ cenC n k what part → fw_R mX8_centres d 30 [some (.ref 18), some (.int (iI k)), some (.int (iI what)), some (.int (iI part)), none, none, none] [] w (some (.int (iI z))) w := by
    intro q
    rw [hz.2 q]
    refine fr_iconst dX8_centres_30 ?_
    exact fr_iret dX8_centres_31 rfl (rfl) (rfl)
  refine fw_K.of (by decide) (Nat.le_of_ble_eq_true rfl) (by simp [Value.category]) (rfl) ?_
  show fw_R _ _ 0 [some (.ref 18), some (.int (iI k)), some (.int (iI what)), some (.int (iI part)), none, none, none] [] _ _ _
  refine fr_iload_n dX8_centres_0 rfl ?_
  refine fr_iconst dX8_centres_1 ?_
  refine fr_aload_n dX8_centres_2 rfl ?_
  refine fr_get fX8_centres_3 h1 rfl ?_
  refine fr_callS kX8_centres_6 (i1) (by omega) rfl rfl rfl ?_
  dsimp only [List.set, Option.toList, List.cons_append, List.nil_append]
  refine fr_if_eq (tgt := 30) dX8_centres_9 (by decide) (by omega) (fun c1 => ?_) (fun c1 => ?_)
  · have q1 := b2_0.mp c1
    simp only [decide_eq_false_iff_not] at q1
    exact bad (fun q => q1 q.1)
  have q1 := b2_n0.mp c1
  simp only [decide_eq_true_eq] at q1
  refine fr_iload_n dX8_centres_12 rfl ?_
  refine fr_iconst dX8_centres_13 ?_
  refine fr_iconst dX8_centres_14 ?_
  refine fr_callS kX8_centres_15 (i2) (by omega) rfl rfl rfl ?_
  dsimp only [List.set, Option.toList, List.cons_append, List.nil_append]
  refine fr_if_eq (tgt := 30) dX8_centres_18 (by decide) (by omega) (fun c2 => ?_) (fun c2 => ?_)
  · have q2 := b2_0.mp c2
    simp only [decide_eq_false_iff_not] at q2
    exact bad (fun q => q2 q.2.1)
  have q2 := b2_n0.mp c2
  simp only [decide_eq_true_eq] at q2
  refine fr_iload_n dX8_centres_21 rfl ?_
  refine fr_iconst dX8_centres_22 ?_
  refine fr_iconst dX8_centres_23 ?_
  refine fr_callS kX8_centres_24 (i3) (by omega) rfl rfl rfl ?_
  dsimp only [List.set, Option.toList, List.cons_append, List.nil_append]
  refine fr_if_ne (tgt := 32) dX8_centres_27 (by decide) (by omega) (fun c3 => ?_) (fun c3 => ?_)
  rotate_left
  · have q3 := b2_0.mp c3
    simp only [decide_eq_false_iff_not] at q3
    exact bad (fun q => q3 q.2.2)
  have q3 := b2_n0.mp c3
  simp only [decide_eq_true_eq] at q3
  rw [hz.1 ⟨q1, q2, q3⟩]
  obtain ⟨kk, rfl⟩ := Int.eq_ofNat_of_zero_le (show 0 ≤ k by omega)
  rw [Int.toNat_natCast]
  obtain ⟨s, hs⟩ : ∃ s, s = decide (what = 1) := ⟨_, rfl⟩
  rw [← hs]
  have hpn := p2_le hn.2
  have hp1 : 1 ≤ 2 ^ n := Nat.one_le_two_pow
  have hsh := iI_shl (m := 1) n (by omega) (by omega)
  rw [Nat.one_mul] at hsh
  generalize 2 ^ n = P at hpn hp1 hsh ⊢
  refine fr_iconst dX8_centres_32 ?_
  refine fr_istore dX8_centres_33 (by decide) rfl rfl ?_
  dsimp only [List.set, Option.toList, List.cons_append, List.nil_append]
  refine fr_sipush dX8_centres_35 (by decide) ?_
  refine fr_istore dX8_centres_38 (by decide) rfl rfl ?_
  dsimp only [List.set, Option.toList, List.cons_append, List.nil_append]
  refine fr_iconst dX8_centres_40 ?_
  refine fr_istore dX8_centres_41 (by decide) rfl rfl ?_
  dsimp only [List.set, Option.toList, List.cons_append, List.nil_append]
  have main := up_loop (fun m => 1 ≤ m → fw_R mX8_centres d 43 [some (.ref 18), some (.int (iI kk)), some (.int (iI what)), some (.int (iI part)), some (.int (iI (cenS 99 n D kk s m).1)), some (.int (iI (cenS 99 n D kk s m).2)), some (.int (iI m))] [] w (some (.int (iI (if part = 0 then ((cenS 99 n D kk s P).1 : Int) else (cenS 99 n D kk s P).2)))) w) P ?_ ?_ 1 hp1 (Nat.le_refl 1)
  · have e0 : cenS 99 n D kk s 1 = (0, 9999) := by
      rw [cenS_s, if_neg (fun z => by have h3 : popc 0 = 0 := by decide
                                      have := z.1; omega)]
      rfl
    rw [e0] at main
    exact main
  · intro _
    refine fr_iload dX8_centres_43 rfl ?_
    refine fr_iconst dX8_centres_45 ?_
    refine fr_aload_n dX8_centres_46 rfl ?_
    refine fr_get fX8_centres_47 h1 rfl ?_
    refine fr_ishl ((P : Int)) dX8_centres_50 (hsh) ?_
    refine fr_icmp_ge (tgt := 94) dX8_centres_51 (by decide) (by omega) (by omega) (fun c => ?_) (fun c => ?_)
    · refine fr_iload_n dX8_centres_94 rfl ?_
      refine fr_if_ne (tgt := 103) dX8_centres_95 (by decide) (by omega) (fun c4 => ?_) (fun c4 => ?_)
      · rw [if_neg c4]
        refine fr_iload dX8_centres_103 rfl ?_
        exact fr_iret dX8_centres_105 rfl (rfl) (rfl)
      · rw [if_pos c4]
        refine fr_iload dX8_centres_98 rfl ?_
        refine fr_goto (tgt := 105) dX8_centres_100 (by decide) ?_
        exact fr_iret dX8_centres_105 rfl (rfl) (rfl)
    · omega
  · intro m hm ih hm1
    have ih := ih (by omega)
    have hcr := cenS_r (top := 99) (by omega) (by omega) hn.2 hD (k := kk) (by omega) s m
    have hco := costA_r (top := 99) (by omega) (by omega) hn.2 hD s m
    have hco2 := costA_r (top := 99) (by omega) (by omega) hn.2 hD s (cenS 99 n D kk s m).1
    have hpc := popc_r m
    have hwo := c_mworthOf (d := 1) (set := m) (by omega) h hD (by omega) q2
    rw [← hs] at hwo
    rw [cenS_s] at ih
    have skip : ¬ (popc m = kk ∧ costA 99 n D s m < (cenS 99 n D kk s m).2) → fw_R mX8_centres d 88 [some (.ref 18), some (.int (iI kk)), some (.int (iI what)), some (.int (iI part)), some (.int (iI (cenS 99 n D kk s m).1)), some (.int (iI (cenS 99 n D kk s m).2)), some (.int (iI m))] [] w (some (.int (iI (if part = 0 then ((cenS 99 n D kk s P).1 : Int) else (cenS 99 n D kk s P).2)))) w := by
      intro hno
      rw [if_neg hno] at ih
      refine fr_iinc dX8_centres_88 rfl (by decide) rfl rfl ?_
      dsimp only [List.set, Option.toList, List.cons_append, List.nil_append]
      refine fr_goto (tgt := 43) dX8_centres_91 (by decide) ?_
      exact ih
    refine fr_iload dX8_centres_43 rfl ?_
    refine fr_iconst dX8_centres_45 ?_
    refine fr_aload_n dX8_centres_46 rfl ?_
    refine fr_get fX8_centres_47 h1 rfl ?_
    refine fr_ishl ((P : Int)) dX8_centres_50 (hsh) ?_
    refine fr_icmp_ge (tgt := 94) dX8_centres_51 (by decide) (by omega) (by omega) (fun c => ?_) (fun c => ?_)
    · omega
    refine fr_iload dX8_centres_54 rfl ?_
    refine fr_callS kX8_centres_56 (c_mbits (d := 0) (v := m) (by omega)) (by omega) rfl rfl rfl ?_
    dsimp only [List.set, Option.toList, List.cons_append, List.nil_append]
    refine fr_iload_n dX8_centres_59 rfl ?_
    refine fr_icmp_ne (tgt := 88) dX8_centres_60 (by decide) (by omega) (by omega) (fun c4 => ?_) (fun c4 => ?_)
    · exact skip (fun z => c4 (by have := z.1; omega))
    · refine fr_aload_n dX8_centres_63 rfl ?_
      refine fr_iload dX8_centres_64 rfl ?_
      refine fr_iload_n dX8_centres_66 rfl ?_
      refine fr_callV kX8_centres_67 (hwo) (by omega) h1 rfl rfl rfl ?_
      dsimp only [List.set, Option.toList, List.cons_append, List.nil_append]
      refine fr_iload dX8_centres_70 rfl ?_
      refine fr_icmp_ge (tgt := 88) dX8_centres_72 (by decide) (by omega) (by omega) (fun c5 => ?_) (fun c5 => ?_)
      · exact skip (fun z => by have := z.2; omega)
      · rw [if_pos ⟨by omega, by omega⟩] at ih
        refine fr_aload_n dX8_centres_75 rfl ?_
        refine fr_iload dX8_centres_76 rfl ?_
        refine fr_iload_n dX8_centres_78 rfl ?_
        refine fr_callV kX8_centres_79 (hwo) (by omega) h1 rfl rfl rfl ?_
        dsimp only [List.set, Option.toList, List.cons_append, List.nil_append]
        refine fr_istore dX8_centres_82 (by decide) rfl rfl ?_
        dsimp only [List.set, Option.toList, List.cons_append, List.nil_append]
        refine fr_iload dX8_centres_84 rfl ?_
        refine fr_istore dX8_centres_86 (by decide) rfl rfl ?_
        dsimp only [List.set, Option.toList, List.cons_append, List.nil_append]
        refine fr_iinc dX8_centres_88 rfl (by decide) rfl rfl ?_
        dsimp only [List.set, Option.toList, List.cons_append, List.nil_append]
        refine fr_goto (tgt := 43) dX8_centres_91 (by decide) ?_
        exact ih
def numC (i v : Int) : Prop := (0 ≤ i ∧ i ≤ 9) ∧ (-1000 ≤ v ∧ v ≤ 1000)
theorem c_mnumber {d n : Nat} {D : Nat → Nat → Int} {A B i v : Int} {num : Nat → Int} {w : fw_S} (hd : 1 ≤ d) (h : mA w n D A B) (hnum : fw_g w 22 (.inr (10, .inl num))) (hi : -2147483648 ≤ i ∧ i ≤ 2147483647) (hv : -2147483648 ≤ v ∧ v ≤ 2147483647) :
    (numC i v → fw_K d mX8_number [.ref 18, .int (iI i), .int (iI v)] w (some (.int (iI (num i.toNat)))) (fw_up w 22 (.inr (10, .inl (fw_u num i.toNat v))))) ∧ (¬ numC i v → fw_K d mX8_number [.ref 18, .int (iI i), .int (iI v)] w (some (.int (iI (-10000)))) w) := by
  have h1 := h.1
  have i1 := c_in (d := 0) (w := w) (v := i) (lo := 0) (hi := 9) hi (by omega) (by omega)
  have i2 := c_in (d := 0) (w := w) (v := v) (lo := -1000) (hi := 1000) hv (by omega) (by omega)
  have r1 := b2_r (decide (0 ≤ i ∧ i ≤ 9))
  have r2 := b2_r (decide (-1000 ≤ v ∧ v ≤ 1000))
  refine ⟨fun hc => ?_, fun hc => ?_⟩
  · rw [show decide (0 ≤ i ∧ i ≤ 9) = true by simp only [decide_eq_true_eq]; exact hc.1] at i1
    rw [show decide (-1000 ≤ v ∧ v ≤ 1000) = true by simp only [decide_eq_true_eq]; exact hc.2] at i2
    have hc1 := hc.1
    obtain ⟨p, rfl⟩ := Int.eq_ofNat_of_zero_le hc1.1
    rw [Int.toNat_natCast]
    refine fw_K.of (by decide) (Nat.le_of_ble_eq_true rfl) (by simp [Value.category]) (rfl) ?_
    show fw_R _ _ 0 [some (.ref 18), some (.int (iI p)), some (.int (iI v)), none] [] _ _ _
    refine fr_iload_n dX8_number_0 rfl ?_
    refine fr_iconst dX8_number_1 ?_
    refine fr_bipush dX8_number_2 (by decide) ?_
    refine fr_callS kX8_number_4 (i1) (by omega) rfl rfl rfl ?_
    dsimp only [List.set, Option.toList, List.cons_append, List.nil_append]
    refine fr_if_eq (tgt := 23) dX8_number_7 (by decide) (by decide) (fun c => ?_) (fun c => ?_)
    · exact absurd c (by decide)
    refine fr_iload_n dX8_number_10 rfl ?_
    refine fr_sipush dX8_number_11 (by decide) ?_
    refine fr_sipush dX8_number_14 (by decide) ?_
    refine fr_callS kX8_number_17 (i2) (by omega) rfl rfl rfl ?_
    dsimp only [List.set, Option.toList, List.cons_append, List.nil_append]
    refine fr_if_ne (tgt := 27) dX8_number_20 (by decide) (by decide) (fun c => ?_) (fun c => ?_)
    · refine fr_aload_n dX8_number_27 rfl ?_
      refine fr_get fX8_number_28 h1 rfl ?_
      refine fr_iload_n dX8_number_31 rfl ?_
      refine fr_iald (p) dX8_number_32 hnum (by omega) (by omega) (by decide) ?_
      refine fr_istore_n dX8_number_33 rfl (by decide) rfl rfl ?_
      dsimp only [List.set, Option.toList, List.cons_append, List.nil_append]
      refine fr_aload_n dX8_number_34 rfl ?_
      refine fr_get fX8_number_35 h1 rfl ?_
      refine fr_iload_n dX8_number_38 rfl ?_
      refine fr_iload_n dX8_number_39 rfl ?_
      refine fr_iast (p) dX8_number_40 hnum (by omega) (by omega) (by decide) ?_
      refine fr_iload_n dX8_number_41 rfl ?_
      exact fr_iret dX8_number_42 rfl (rfl) (rfl)
    · exact absurd c (by decide)
  · have bad : fw_R mX8_number d 23 [some (.ref 18), some (.int (iI i)), some (.int (iI v)), none] [] w (some (.int (iI (-10000)))) w := by
      refine fr_sipush dX8_number_23 (by decide) ?_
      exact fr_iret dX8_number_26 rfl (rfl) (rfl)
    refine fw_K.of (by decide) (Nat.le_of_ble_eq_true rfl) (by simp [Value.category]) (rfl) ?_
    show fw_R _ _ 0 [some (.ref 18), some (.int (iI i)), some (.int (iI v)), none] [] _ _ _
    refine fr_iload_n dX8_number_0 rfl ?_
    refine fr_iconst dX8_number_1 ?_
    refine fr_bipush dX8_number_2 (by decide) ?_
    refine fr_callS kX8_number_4 (i1) (by omega) rfl rfl rfl ?_
    dsimp only [List.set, Option.toList, List.cons_append, List.nil_append]
    refine fr_if_eq (tgt := 23) dX8_number_7 (by decide) (by omega) (fun c1 => ?_) (fun c1 => ?_)
    · exact bad
    refine fr_iload_n dX8_number_10 rfl ?_
    refine fr_sipush dX8_number_11 (by decide) ?_
    refine fr_sipush dX8_number_14 (by decide) ?_
    refine fr_callS kX8_number_17 (i2) (by omega) rfl rfl rfl ?_
    dsimp only [List.set, Option.toList, List.cons_append, List.nil_append]
    refine fr_if_ne (tgt := 27) dX8_number_20 (by decide) (by omega) (fun c2 => ?_) (fun c2 => ?_)
    · have q1 := b2_n0.mp c1
      have q2 := b2_n0.mp c2
      simp only [decide_eq_true_eq] at q1 q2
      exact absurd ⟨q1, q2⟩ hc
    · exact bad
theorem c_msumOf {d n c row : Nat} {D : Nat → Nat → Int} {A B : Int} {num : Nat → Int} {w : fw_S} (h : mA w n D A B) (hnum : fw_g w 22 (.inr (10, .inl num))) (hN : okN num) (hc : c ≤ 10) (hr : row < 2147483647) : fw_K d mX8_sumOf [.ref 18, .int (iI c), .int (iI row)] w (some (.int (iI (szS num c row)))) w := by
  have h1 := h.1
  refine fw_K.of (by decide) (Nat.le_of_ble_eq_true rfl) (by simp [Value.category]) (rfl) ?_
  show fw_R _ _ 0 [some (.ref 18), some (.int (iI c)), some (.int (iI row)), none, none] [] _ _ _
  refine fr_iconst dX8_sumOf_0 ?_
  refine fr_istore_n dX8_sumOf_1 rfl (by decide) rfl rfl ?_
  dsimp only [List.set, Option.toList, List.cons_append, List.nil_append]
  refine fr_iconst dX8_sumOf_2 ?_
  refine fr_istore dX8_sumOf_3 (by decide) rfl rfl ?_
  dsimp only [List.set, Option.toList, List.cons_append, List.nil_append]
  refine up_loop (fun i => fw_R mX8_sumOf d 5 [some (.ref 18), some (.int (iI c)), some (.int (iI row)), some (.int (iI (sumS num row i))), some (.int (iI i))] [] w (some (.int (iI (szS num c row)))) w) c ?_ ?_ 0 (Nat.zero_le _)
  · have hb := sumS_r hN row c hc
    refine fr_iload dX8_sumOf_5 rfl ?_
    refine fr_iload_n dX8_sumOf_7 rfl ?_
    refine fr_icmp_ge (tgt := 48) dX8_sumOf_8 (by decide) (by omega) (by omega) (fun q => ?_) (fun q => ?_)
    · refine fr_iload_n dX8_sumOf_48 rfl ?_
      refine fr_if_ge (tgt := 57) dX8_sumOf_49 (by decide) (by omega) (fun q2 => ?_) (fun q2 => ?_)
      · refine fr_iload_n dX8_sumOf_57 rfl ?_
        exact fr_iret dX8_sumOf_58 rfl (by rw [szS, show (((sumS num row c).natAbs : Nat) : Int) = sumS num row c by omega]) (rfl)
      · refine fr_iload_n dX8_sumOf_52 rfl ?_
        refine fr_ineg dX8_sumOf_53 ?_
        refine fr_goto (tgt := 58) dX8_sumOf_54 (by decide) ?_
        exact fr_iret dX8_sumOf_58 rfl (by rw [szS, show (((sumS num row c).natAbs : Nat) : Int) = -sumS num row c by omega]) (rfl)
    · omega
  · intro i hi ih
    have hb := sumS_r hN row i (by omega)
    have hni := hN i (by omega)
    have hbit := bit_r (z := row) (k := i) (by omega) (by omega)
    have r1 := b2_r (row.testBit i)
    rw [sumS_s] at ih
    refine fr_iload dX8_sumOf_5 rfl ?_
    refine fr_iload_n dX8_sumOf_7 rfl ?_
    refine fr_icmp_ge (tgt := 48) dX8_sumOf_8 (by decide) (by omega) (by omega) (fun q => ?_) (fun q => ?_)
    · omega
    refine fr_iload_n dX8_sumOf_11 rfl ?_
    refine fr_iload_n dX8_sumOf_12 rfl ?_
    refine fr_iload dX8_sumOf_13 rfl ?_
    refine fr_ishr (((row / 2 ^ i : Nat) : Int)) dX8_sumOf_15 (hbit.1) ?_
    refine fr_iconst dX8_sumOf_16 ?_
    refine fr_iand (b2 (row.testBit i)) dX8_sumOf_17 (hbit.2.1) ?_
    refine fr_iconst dX8_sumOf_18 ?_
    refine fr_icmp_ne (tgt := 33) dX8_sumOf_19 (by decide) (by omega) (by omega) (fun q2 => ?_) (fun q2 => ?_)
    · rw [if_neg (fun z => by rw [z] at q2; exact absurd rfl q2)] at ih
      refine fr_aload_n dX8_sumOf_33 rfl ?_
      refine fr_get fX8_sumOf_34 h1 rfl ?_
      refine fr_iload dX8_sumOf_37 rfl ?_
      refine fr_iald (i) dX8_sumOf_39 hnum (by omega) (by omega) (by decide) ?_
      refine fr_iadd dX8_sumOf_40 ?_
      refine fr_istore_n dX8_sumOf_41 rfl (by decide) rfl rfl ?_
      dsimp only [List.set, Option.toList, List.cons_append, List.nil_append]
      refine fr_iinc dX8_sumOf_42 rfl (by decide) rfl rfl ?_
      dsimp only [List.set, Option.toList, List.cons_append, List.nil_append]
      refine fr_goto (tgt := 5) dX8_sumOf_45 (by decide) ?_
      exact ih
    · have hbt : row.testBit i = true := by cases hz : row.testBit i with
        | true => rfl
        | false => rw [hz] at q2; exact absurd q2 (by decide)
      rw [if_pos hbt] at ih
      refine fr_aload_n dX8_sumOf_22 rfl ?_
      refine fr_get fX8_sumOf_23 h1 rfl ?_
      refine fr_iload dX8_sumOf_26 rfl ?_
      refine fr_iald (i) dX8_sumOf_28 hnum (by omega) (by omega) (by decide) ?_
      refine fr_ineg dX8_sumOf_29 ?_
      refine fr_goto (tgt := 40) dX8_sumOf_30 (by decide) ?_
      refine fr_iadd dX8_sumOf_40 ?_
      refine fr_istore_n dX8_sumOf_41 rfl (by decide) rfl rfl ?_
      dsimp only [List.set, Option.toList, List.cons_append, List.nil_append]
      refine fr_iinc dX8_sumOf_42 rfl (by decide) rfl rfl ?_
      dsimp only [List.set, Option.toList, List.cons_append, List.nil_append]
      refine fr_goto (tgt := 5) dX8_sumOf_45 (by decide) ?_
      exact ih
def sigZ (num : Nat → Int) (c t : Int) : Int := if (1 ≤ c ∧ c ≤ 10) ∧ (0 ≤ t ∧ t ≤ 10000) then cntS num c.toNat t (2 ^ c.toNat) else -1
theorem c_msigns {d n : Nat} {D : Nat → Nat → Int} {A B c t : Int} {num : Nat → Int} {w : fw_S} (hd : 1 ≤ d) (h : mA w n D A B) (hnum : fw_g w 22 (.inr (10, .inl num))) (hN : okN num) (hc : -2147483648 ≤ c ∧ c ≤ 2147483647) (ht : -2147483648 ≤ t ∧ t ≤ 2147483647) : fw_K d mX8_signs [.ref 18, .int (iI c), .int (iI t)] w (some (.int (iI (sigZ num c t)))) w := by
  have h1 := h.1
  have i1 := c_in (d := 0) (w := w) (v := c) (lo := 1) (hi := 10) hc (by omega) (by omega)
  have i2 := c_in (d := 0) (w := w) (v := t) (lo := 0) (hi := 10000) ht (by omega) (by omega)
  have r1 := b2_r (decide (1 ≤ c ∧ c ≤ 10))
  have r2 := b2_r (decide (0 ≤ t ∧ t ≤ 10000))
  unfold sigZ
  refine fw_K.of (by decide) (Nat.le_of_ble_eq_true rfl) (by simp [Value.category]) (rfl) ?_
  show fw_R _ _ 0 [some (.ref 18), some (.int (iI c)), some (.int (iI t)), none, none] [] _ _ _
  refine fr_iload_n dX8_signs_0 rfl ?_
  refine fr_iconst dX8_signs_1 ?_
  refine fr_bipush dX8_signs_2 (by decide) ?_
  refine fr_callS kX8_signs_4 (i1) (by omega) rfl rfl rfl ?_
  dsimp only [List.set, Option.toList, List.cons_append, List.nil_append]
  refine fr_if_eq (tgt := 21) dX8_signs_7 (by decide) (by omega) (fun c1 => ?_) (fun c1 => ?_)
  · have q1 := b2_0.mp c1
    simp only [decide_eq_false_iff_not] at q1
    rw [if_neg (fun z => q1 z.1)]
    refine fr_iconst dX8_signs_21 ?_
    exact fr_iret dX8_signs_22 rfl (rfl) (rfl)
  have q1 := b2_n0.mp c1
  simp only [decide_eq_true_eq] at q1
  refine fr_iload_n dX8_signs_10 rfl ?_
  refine fr_iconst dX8_signs_11 ?_
  refine fr_sipush dX8_signs_12 (by decide) ?_
  refine fr_callS kX8_signs_15 (i2) (by omega) rfl rfl rfl ?_
  dsimp only [List.set, Option.toList, List.cons_append, List.nil_append]
  refine fr_if_ne (tgt := 23) dX8_signs_18 (by decide) (by omega) (fun c2 => ?_) (fun c2 => ?_)
  rotate_left
  · have q2 := b2_0.mp c2
    simp only [decide_eq_false_iff_not] at q2
    rw [if_neg (fun z => q2 z.2)]
    refine fr_iconst dX8_signs_21 ?_
    exact fr_iret dX8_signs_22 rfl (rfl) (rfl)
  have q2 := b2_n0.mp c2
  simp only [decide_eq_true_eq] at q2
  rw [if_pos ⟨q1, q2⟩]
  obtain ⟨k, rfl⟩ := Int.eq_ofNat_of_zero_le (show 0 ≤ c by omega)
  rw [Int.toNat_natCast]
  have hp := p10_le (c := k) (by omega)
  have hsh := iI_shl (m := 1) k (by omega) (by omega)
  rw [Nat.one_mul] at hsh
  generalize 2 ^ k = P at hp hsh ⊢
  refine fr_iconst dX8_signs_23 ?_
  refine fr_istore_n dX8_signs_24 rfl (by decide) rfl rfl ?_
  dsimp only [List.set, Option.toList, List.cons_append, List.nil_append]
  refine fr_iconst dX8_signs_25 ?_
  refine fr_istore dX8_signs_26 (by decide) rfl rfl ?_
  dsimp only [List.set, Option.toList, List.cons_append, List.nil_append]
  refine up_loop (fun i => fw_R mX8_signs d 28 [some (.ref 18), some (.int (iI k)), some (.int (iI t)), some (.int (iI (cntS num k t i))), some (.int (iI i))] [] w (some (.int (iI (cntS num k t P)))) w) P ?_ ?_ 0 (Nat.zero_le _)
  · refine fr_iload dX8_signs_28 rfl ?_
    refine fr_iconst dX8_signs_30 ?_
    refine fr_iload_n dX8_signs_31 rfl ?_
    refine fr_ishl ((P : Int)) dX8_signs_32 (hsh) ?_
    refine fr_icmp_ge (tgt := 61) dX8_signs_33 (by decide) (by omega) (by omega) (fun q => ?_) (fun q => ?_)
    · refine fr_iload_n dX8_signs_61 rfl ?_
      exact fr_iret dX8_signs_62 rfl (rfl) (rfl)
    · omega
  · intro i hi ih
    have hb := cntS_r num k t i
    have hs := szS_r hN i k (by omega)
    rw [cntS_s] at ih
    refine fr_iload dX8_signs_28 rfl ?_
    refine fr_iconst dX8_signs_30 ?_
    refine fr_iload_n dX8_signs_31 rfl ?_
    refine fr_ishl ((P : Int)) dX8_signs_32 (hsh) ?_
    refine fr_icmp_ge (tgt := 61) dX8_signs_33 (by decide) (by omega) (by omega) (fun q => ?_) (fun q => ?_)
    · omega
    refine fr_iload_n dX8_signs_36 rfl ?_
    refine fr_aload_n dX8_signs_37 rfl ?_
    refine fr_iload_n dX8_signs_38 rfl ?_
    refine fr_iload dX8_signs_39 rfl ?_
    refine fr_callV kX8_signs_41 (c_msumOf (d := 0) h hnum hN (by omega) (by omega)) (by omega) h1 rfl rfl rfl ?_
    dsimp only [List.set, Option.toList, List.cons_append, List.nil_append]
    refine fr_iload_n dX8_signs_44 rfl ?_
    refine fr_icmp_gt (tgt := 52) dX8_signs_45 (by decide) (by omega) (by omega) (fun q3 => ?_) (fun q3 => ?_)
    · rw [if_neg (by omega)] at ih
      refine fr_iconst dX8_signs_52 ?_
      refine fr_iadd dX8_signs_53 ?_
      refine fr_istore_n dX8_signs_54 rfl (by decide) rfl rfl ?_
      dsimp only [List.set, Option.toList, List.cons_append, List.nil_append]
      refine fr_iinc dX8_signs_55 rfl (by decide) rfl rfl ?_
      dsimp only [List.set, Option.toList, List.cons_append, List.nil_append]
      refine fr_goto (tgt := 28) dX8_signs_58 (by decide) ?_
      exact ih
    · rw [if_pos (by omega)] at ih
      refine fr_iconst dX8_signs_48 ?_
      refine fr_goto (tgt := 53) dX8_signs_49 (by decide) ?_
      refine fr_iadd dX8_signs_53 ?_
      refine fr_istore_n dX8_signs_54 rfl (by decide) rfl rfl ?_
      dsimp only [List.set, Option.toList, List.cons_append, List.nil_append]
      refine fr_iinc dX8_signs_55 rfl (by decide) rfl rfl ?_
      dsimp only [List.set, Option.toList, List.cons_append, List.nil_append]
      refine fr_goto (tgt := 28) dX8_signs_58 (by decide) ?_
      exact ih
def lstZ (num : Nat → Int) (c what : Int) : Int := if (1 ≤ c ∧ c ≤ 10) ∧ (0 ≤ what ∧ what ≤ 1) then (if what = 0 then (bstS num c.toNat (2 ^ c.toNat - 1) : Int) else szS num c.toNat (bstS num c.toNat (2 ^ c.toNat - 1))) else -1
theorem c_mleast {d n : Nat} {D : Nat → Nat → Int} {A B c what : Int} {num : Nat → Int} {w : fw_S} (hd : 1 ≤ d) (h : mA w n D A B) (hnum : fw_g w 22 (.inr (10, .inl num))) (hN : okN num) (hc : -2147483648 ≤ c ∧ c ≤ 2147483647) (ht : -2147483648 ≤ what ∧ what ≤ 2147483647) : fw_K d mX8_least [.ref 18, .int (iI c), .int (iI what)] w (some (.int (iI (lstZ num c what)))) w := by
  have h1 := h.1
  have i1 := c_in (d := 0) (w := w) (v := c) (lo := 1) (hi := 10) hc (by omega) (by omega)
  have i2 := c_in (d := 0) (w := w) (v := what) (lo := 0) (hi := 1) ht (by omega) (by omega)
  have r1 := b2_r (decide (1 ≤ c ∧ c ≤ 10))
  have r2 := b2_r (decide (0 ≤ what ∧ what ≤ 1))
  unfold lstZ
  refine fw_K.of (by decide) (Nat.le_of_ble_eq_true rfl) (by simp [Value.category]) (rfl) ?_
  show fw_R _ _ 0 [some (.ref 18), some (.int (iI c)), some (.int (iI what)), none, none] [] _ _ _
  refine fr_iload_n dX8_least_0 rfl ?_
  refine fr_iconst dX8_least_1 ?_
  refine fr_bipush dX8_least_2 (by decide) ?_
  refine fr_callS kX8_least_4 (i1) (by omega) rfl rfl rfl ?_
  dsimp only [List.set, Option.toList, List.cons_append, List.nil_append]
  refine fr_if_eq (tgt := 19) dX8_least_7 (by decide) (by omega) (fun c1 => ?_) (fun c1 => ?_)
  · have q1 := b2_0.mp c1
    simp only [decide_eq_false_iff_not] at q1
    rw [if_neg (fun z => q1 z.1)]
    refine fr_iconst dX8_least_19 ?_
    exact fr_iret dX8_least_20 rfl (rfl) (rfl)
  have q1 := b2_n0.mp c1
  simp only [decide_eq_true_eq] at q1
  refine fr_iload_n dX8_least_10 rfl ?_
  refine fr_iconst dX8_least_11 ?_
  refine fr_iconst dX8_least_12 ?_
  refine fr_callS kX8_least_13 (i2) (by omega) rfl rfl rfl ?_
  dsimp only [List.set, Option.toList, List.cons_append, List.nil_append]
  refine fr_if_ne (tgt := 21) dX8_least_16 (by decide) (by omega) (fun c2 => ?_) (fun c2 => ?_)
  rotate_left
  · have q2 := b2_0.mp c2
    simp only [decide_eq_false_iff_not] at q2
    rw [if_neg (fun z => q2 z.2)]
    refine fr_iconst dX8_least_19 ?_
    exact fr_iret dX8_least_20 rfl (rfl) (rfl)
  have q2 := b2_n0.mp c2
  simp only [decide_eq_true_eq] at q2
  rw [if_pos ⟨q1, q2⟩]
  obtain ⟨k, rfl⟩ := Int.eq_ofNat_of_zero_le (show 0 ≤ c by omega)
  rw [Int.toNat_natCast]
  have hp := p10_le (c := k) (by omega)
  have hp1 : 1 ≤ 2 ^ k := Nat.one_le_two_pow
  have hsh := iI_shl (m := 1) k (by omega) (by omega)
  rw [Nat.one_mul] at hsh
  generalize 2 ^ k = P at hp hp1 hsh ⊢
  obtain ⟨rz, hrz⟩ : ∃ z : Int, z = (if what = 0 then (bstS num k (P - 1) : Int) else szS num k (bstS num k (P - 1))) := ⟨_, rfl⟩
  rw [← hrz]
  refine fr_iconst dX8_least_21 ?_
  refine fr_istore_n dX8_least_22 rfl (by decide) rfl rfl ?_
  dsimp only [List.set, Option.toList, List.cons_append, List.nil_append]
  refine fr_iconst dX8_least_23 ?_
  refine fr_istore dX8_least_24 (by decide) rfl rfl ?_
  dsimp only [List.set, Option.toList, List.cons_append, List.nil_append]
  refine up_loop (fun i => fw_R mX8_least d 26 [some (.ref 18), some (.int (iI k)), some (.int (iI what)), some (.int (iI (bstS num k i))), some (.int (iI ((i : Int) + 1)))] [] w (some (.int (iI rz))) w) (P - 1) ?_ ?_ 0 (Nat.zero_le _)
  · have hb := bstS_le num k (P - 1)
    refine fr_iload dX8_least_26 rfl ?_
    refine fr_iconst dX8_least_28 ?_
    refine fr_iload_n dX8_least_29 rfl ?_
    refine fr_ishl ((P : Int)) dX8_least_30 (hsh) ?_
    refine fr_icmp_ge (tgt := 63) dX8_least_31 (by decide) (by omega) (by omega) (fun q => ?_) (fun q => ?_)
    · refine fr_iload_n dX8_least_63 rfl ?_
      refine fr_if_ne (tgt := 71) dX8_least_64 (by decide) (by omega) (fun q3 => ?_) (fun q3 => ?_)
      · rw [hrz, if_neg q3]
        refine fr_aload_n dX8_least_71 rfl ?_
        refine fr_iload_n dX8_least_72 rfl ?_
        refine fr_iload_n dX8_least_73 rfl ?_
        refine fr_callV kX8_least_74 (c_msumOf (d := 0) h hnum hN (by omega) (by omega)) (by omega) h1 rfl rfl rfl ?_
        dsimp only [List.set, Option.toList, List.cons_append, List.nil_append]
        exact fr_iret dX8_least_77 rfl (rfl) (rfl)
      · rw [hrz, if_pos q3]
        refine fr_iload_n dX8_least_67 rfl ?_
        refine fr_goto (tgt := 77) dX8_least_68 (by decide) ?_
        exact fr_iret dX8_least_77 rfl (rfl) (rfl)
    · omega
  · intro i hi ih
    have hb := bstS_le num k i
    have hs := szS_r hN (i + 1) k (by omega)
    have hs2 := szS_r hN (bstS num k i) k (by omega)
    rw [bstS_s] at ih
    rw [show ((i + 1 : Nat) : Int) = (i : Int) + 1 by omega] at ih
    have hcs := c_msumOf (d := 0) (c := k) (row := i + 1) h hnum hN (by omega) (by omega)
    rw [show ((i + 1 : Nat) : Int) = (i : Int) + 1 by omega] at hcs
    refine fr_iload dX8_least_26 rfl ?_
    refine fr_iconst dX8_least_28 ?_
    refine fr_iload_n dX8_least_29 rfl ?_
    refine fr_ishl ((P : Int)) dX8_least_30 (hsh) ?_
    refine fr_icmp_ge (tgt := 63) dX8_least_31 (by decide) (by omega) (by omega) (fun q => ?_) (fun q => ?_)
    · omega
    refine fr_aload_n dX8_least_34 rfl ?_
    refine fr_iload_n dX8_least_35 rfl ?_
    refine fr_iload dX8_least_36 rfl ?_
    refine fr_callV kX8_least_38 (hcs) (by omega) h1 rfl rfl rfl ?_
    dsimp only [List.set, Option.toList, List.cons_append, List.nil_append]
    refine fr_aload_n dX8_least_41 rfl ?_
    refine fr_iload_n dX8_least_42 rfl ?_
    refine fr_iload_n dX8_least_43 rfl ?_
    refine fr_callV kX8_least_44 (c_msumOf (d := 0) (c := k) (row := bstS num k i) h hnum hN (by omega) (by omega)) (by omega) h1 rfl rfl rfl ?_
    dsimp only [List.set, Option.toList, List.cons_append, List.nil_append]
    refine fr_icmp_ge (tgt := 55) dX8_least_47 (by decide) (by omega) (by omega) (fun q3 => ?_) (fun q3 => ?_)
    · rw [if_neg (by omega)] at ih
      refine fr_iload_n dX8_least_55 rfl ?_
      refine fr_istore_n dX8_least_56 rfl (by decide) rfl rfl ?_
      dsimp only [List.set, Option.toList, List.cons_append, List.nil_append]
      refine fr_iinc dX8_least_57 rfl (by decide) rfl rfl ?_
      dsimp only [List.set, Option.toList, List.cons_append, List.nil_append]
      refine fr_goto (tgt := 26) dX8_least_60 (by decide) ?_
      exact ih
    · rw [if_pos (by omega), show ((i + 1 : Nat) : Int) = (i : Int) + 1 by omega] at ih
      refine fr_iload dX8_least_50 rfl ?_
      refine fr_goto (tgt := 56) dX8_least_52 (by decide) ?_
      refine fr_istore_n dX8_least_56 rfl (by decide) rfl rfl ?_
      dsimp only [List.set, Option.toList, List.cons_append, List.nil_append]
      refine fr_iinc dX8_least_57 rfl (by decide) rfl rfl ?_
      dsimp only [List.set, Option.toList, List.cons_append, List.nil_append]
      refine fr_goto (tgt := 26) dX8_least_60 (by decide) ?_
      exact ih
