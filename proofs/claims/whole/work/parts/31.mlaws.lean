/-! the reference: laws -/
theorem c_misTwice {d : Nat} {w : fw_S} {x y z : Int} (hx : 0 ≤ x ∧ x ≤ 1000) (hy : 0 ≤ y ∧ y ≤ 1000) (hz : 0 ≤ z ∧ z ≤ 1000) : fw_K d mX8_isTwice [.int (iI x), .int (iI y), .int (iI z)] w (some (.int (iI (b2 (!alone x y z))))) w := by
  have K1 : ∀ m : Int, m = max (max x y) z → fw_R mX8_isTwice d 22 [some (.int (iI x)), some (.int (iI y)), some (.int (iI z)), some (.int (iI m))] [] w (some (.int (iI (b2 (!alone x y z))))) w := by
    intro m hm
    have fin : ∀ q : Int, 0 ≤ q ∧ q ≤ 3 → ((1 < q) ↔ alone x y z = false) → fw_R mX8_isTwice d 54 [some (.int (iI x)), some (.int (iI y)), some (.int (iI z)), some (.int (iI m))] [.int (iI q)] w (some (.int (iI (b2 (!alone x y z))))) w := by
      intro q hq hqa
      refine fr_iconst dX8_isTwice_54 ?_
      refine fr_icmp_le (tgt := 62) dX8_isTwice_55 (by decide) (by omega) (by omega) (fun c => ?_) (fun c => ?_)
      · refine fr_iconst dX8_isTwice_62 ?_
        have : alone x y z = true := by
          cases hb : alone x y z with
          | true => rfl
          | false => exact absurd (hqa.mpr hb) (by omega)
        exact fr_zret dX8_isTwice_63 rfl (by decide) (by rw [this]; rfl) (rfl)
      · refine fr_iconst dX8_isTwice_58 ?_
        refine fr_goto (tgt := 63) dX8_isTwice_59 (by decide) ?_
        exact fr_zret dX8_isTwice_63 rfl (by decide) (by rw [hqa.mp c]; rfl) (rfl)
    have ha : ∀ q : Int, (1 < q ↔ ¬ (x > max y z ∨ y > max x z ∨ z > max x y)) → (1 < q ↔ alone x y z = false) := by
      intro q hq
      unfold alone
      rw [hq, decide_eq_false_iff_not]
    refine fr_iload_n dX8_isTwice_22 rfl ?_
    refine fr_iload_n dX8_isTwice_23 rfl ?_
    refine fr_icmp_ne (tgt := 31) dX8_isTwice_24 (by decide) (by omega) (by omega) (fun c1 => ?_) (fun c1 => ?_)
    · refine fr_iconst dX8_isTwice_31 ?_
      refine fr_iload_n dX8_isTwice_32 rfl ?_
      refine fr_iload_n dX8_isTwice_33 rfl ?_
      refine fr_icmp_ne (tgt := 41) dX8_isTwice_34 (by decide) (by omega) (by omega) (fun c2 => ?_) (fun c2 => ?_)
      · refine fr_iconst dX8_isTwice_41 ?_
        refine fr_iadd dX8_isTwice_42 ?_
        refine fr_iload_n dX8_isTwice_43 rfl ?_
        refine fr_iload_n dX8_isTwice_44 rfl ?_
        refine fr_icmp_ne (tgt := 52) dX8_isTwice_45 (by decide) (by omega) (by omega) (fun c3 => ?_) (fun c3 => ?_)
        · refine fr_iconst dX8_isTwice_52 ?_
          refine fr_iadd dX8_isTwice_53 ?_
          exact fin _ (by omega) (ha _ (by omega))
        · refine fr_iconst dX8_isTwice_48 ?_
          refine fr_goto (tgt := 53) dX8_isTwice_49 (by decide) ?_
          refine fr_iadd dX8_isTwice_53 ?_
          exact fin _ (by omega) (ha _ (by omega))
      · refine fr_iconst dX8_isTwice_37 ?_
        refine fr_goto (tgt := 42) dX8_isTwice_38 (by decide) ?_
        refine fr_iadd dX8_isTwice_42 ?_
        refine fr_iload_n dX8_isTwice_43 rfl ?_
        refine fr_iload_n dX8_isTwice_44 rfl ?_
        refine fr_icmp_ne (tgt := 52) dX8_isTwice_45 (by decide) (by omega) (by omega) (fun c3 => ?_) (fun c3 => ?_)
        · refine fr_iconst dX8_isTwice_52 ?_
          refine fr_iadd dX8_isTwice_53 ?_
          exact fin _ (by omega) (ha _ (by omega))
        · refine fr_iconst dX8_isTwice_48 ?_
          refine fr_goto (tgt := 53) dX8_isTwice_49 (by decide) ?_
          refine fr_iadd dX8_isTwice_53 ?_
          exact fin _ (by omega) (ha _ (by omega))
    · refine fr_iconst dX8_isTwice_27 ?_
      refine fr_goto (tgt := 32) dX8_isTwice_28 (by decide) ?_
      refine fr_iload_n dX8_isTwice_32 rfl ?_
      refine fr_iload_n dX8_isTwice_33 rfl ?_
      refine fr_icmp_ne (tgt := 41) dX8_isTwice_34 (by decide) (by omega) (by omega) (fun c2 => ?_) (fun c2 => ?_)
      · refine fr_iconst dX8_isTwice_41 ?_
        refine fr_iadd dX8_isTwice_42 ?_
        refine fr_iload_n dX8_isTwice_43 rfl ?_
        refine fr_iload_n dX8_isTwice_44 rfl ?_
        refine fr_icmp_ne (tgt := 52) dX8_isTwice_45 (by decide) (by omega) (by omega) (fun c3 => ?_) (fun c3 => ?_)
        · refine fr_iconst dX8_isTwice_52 ?_
          refine fr_iadd dX8_isTwice_53 ?_
          exact fin _ (by omega) (ha _ (by omega))
        · refine fr_iconst dX8_isTwice_48 ?_
          refine fr_goto (tgt := 53) dX8_isTwice_49 (by decide) ?_
          refine fr_iadd dX8_isTwice_53 ?_
          exact fin _ (by omega) (ha _ (by omega))
      · refine fr_iconst dX8_isTwice_37 ?_
        refine fr_goto (tgt := 42) dX8_isTwice_38 (by decide) ?_
        refine fr_iadd dX8_isTwice_42 ?_
        refine fr_iload_n dX8_isTwice_43 rfl ?_
        refine fr_iload_n dX8_isTwice_44 rfl ?_
        refine fr_icmp_ne (tgt := 52) dX8_isTwice_45 (by decide) (by omega) (by omega) (fun c3 => ?_) (fun c3 => ?_)
        · refine fr_iconst dX8_isTwice_52 ?_
          refine fr_iadd dX8_isTwice_53 ?_
          exact fin _ (by omega) (ha _ (by omega))
        · refine fr_iconst dX8_isTwice_48 ?_
          refine fr_goto (tgt := 53) dX8_isTwice_49 (by decide) ?_
          refine fr_iadd dX8_isTwice_53 ?_
          exact fin _ (by omega) (ha _ (by omega))
  have K2 : ∀ m : Int, m = max x y → fw_R mX8_isTwice d 10 [some (.int (iI x)), some (.int (iI y)), some (.int (iI z)), none] [.int (iI m)] w (some (.int (iI (b2 (!alone x y z))))) w := by
    intro m hm
    refine fr_istore_n dX8_isTwice_10 rfl (by decide) rfl rfl ?_
    dsimp only [List.set, Option.toList, List.cons_append, List.nil_append]
    refine fr_iload_n dX8_isTwice_11 rfl ?_
    refine fr_iload_n dX8_isTwice_12 rfl ?_
    refine fr_icmp_le (tgt := 20) dX8_isTwice_13 (by decide) (by omega) (by omega) (fun c => ?_) (fun c => ?_)
    · refine fr_iload_n dX8_isTwice_20 rfl ?_
      refine fr_istore_n dX8_isTwice_21 rfl (by decide) rfl rfl ?_
      dsimp only [List.set, Option.toList, List.cons_append, List.nil_append]
      exact K1 _ (by omega)
    · refine fr_iload_n dX8_isTwice_16 rfl ?_
      refine fr_goto (tgt := 21) dX8_isTwice_17 (by decide) ?_
      refine fr_istore_n dX8_isTwice_21 rfl (by decide) rfl rfl ?_
      dsimp only [List.set, Option.toList, List.cons_append, List.nil_append]
      exact K1 _ (by omega)
  refine fw_K.of (by decide) (Nat.le_of_ble_eq_true rfl) (by simp [Value.category]) (rfl) ?_
  show fw_R _ _ 0 [some (.int (iI x)), some (.int (iI y)), some (.int (iI z)), none] [] _ _ _
  refine fr_iload_n dX8_isTwice_0 rfl ?_
  refine fr_iload_n dX8_isTwice_1 rfl ?_
  refine fr_icmp_le (tgt := 9) dX8_isTwice_2 (by decide) (by omega) (by omega) (fun c => ?_) (fun c => ?_)
  · refine fr_iload_n dX8_isTwice_9 rfl ?_
    exact K2 _ (by omega)
  · refine fr_iload_n dX8_isTwice_5 rfl ?_
    refine fr_goto (tgt := 10) dX8_isTwice_6 (by decide) ?_
    exact K2 _ (by omega)
theorem pull_le {D : Nat → Nat → Int} {n : Nat} (hD : okR n D 30) {f : Nat → Int} {q : Nat} (hq : q < n) (hf : ∀ i, -2 ≤ f i ∧ f i ≤ 2) (hn : n ≤ 6) (j : Nat) (hj : j ≤ n) : -360 ≤ pull D f q j ∧ pull D f q j ≤ 360 := by
  have := pull_r hD hq j hj (fun i _ => hf i)
  omega
theorem c_misAbove {d n x : Nat} {D : Nat → Nat → Int} {A B : Int} {w : fw_S} (hd : 1 ≤ d) (h : mA w n D A B) (hD : okR n D 30) (hx : x < 5 ^ n) : fw_K d mX8_isAbove [.ref 18, .int (iI x)] w (some (.int (iI (b2 (p3 n D x))))) w := by
  have h1 := h.1
  have hn := h.2.2
  have hx6 : x < 15625 := Nat.lt_of_lt_of_le hx (Nat.pow_le_pow_right (n := 5) (j := 6) (by decide) hn.2)
  have hsn := sumD_r n x
  have hwn := worD_r hD hn.2 n x (Nat.le_refl n)
  have outer : ∀ m : Nat, m ≤ n → ∀ r : Nat, r < 15625 → fw_R mX8_isAbove d 15 [some (.ref 18), some (.int (iI x)), some (.int (iI (sumD n x - sumD m r))), some (.int (iI (worD D n x - worD D m r))), some (.int (iI r)), some (.int (iI ((m : Int) - 1))), none, none, none] [] w (some (.int (iI (b2 (p3 n D x))))) w := by
    intro m
    induction m with
    | zero =>
      intro _ r _
      rw [show sumD 0 r = 0 from rfl, show worD D 0 r = 0 from rfl, Int.sub_zero, Int.sub_zero]
      refine fr_iload dX8_isAbove_15 rfl ?_
      refine fr_if_lt (tgt := 93) dX8_isAbove_17 (by decide) (by omega) (fun c => ?_) (fun c => ?_)
      · refine fr_iload_n dX8_isAbove_93 rfl ?_
        refine fr_iconst dX8_isAbove_94 ?_
        refine fr_icmp_ne (tgt := 106) dX8_isAbove_95 (by decide) (by omega) (by omega) (fun c1 => ?_) (fun c1 => ?_)
        · refine fr_iconst dX8_isAbove_106 ?_
          exact fr_zret dX8_isAbove_107 rfl (by decide) (by rw [show p3 n D x = false by unfold p3; simp only [decide_eq_false_iff_not]; omega]; rfl) (rfl)
        · refine fr_iload_n dX8_isAbove_98 rfl ?_
          refine fr_if_le (tgt := 106) dX8_isAbove_99 (by decide) (by omega) (fun c2 => ?_) (fun c2 => ?_)
          · refine fr_iconst dX8_isAbove_106 ?_
            exact fr_zret dX8_isAbove_107 rfl (by decide) (by rw [show p3 n D x = false by unfold p3; simp only [decide_eq_false_iff_not]; omega]; rfl) (rfl)
          · refine fr_iconst dX8_isAbove_102 ?_
            refine fr_goto (tgt := 107) dX8_isAbove_103 (by decide) ?_
            exact fr_zret dX8_isAbove_107 rfl (by decide) (by rw [show p3 n D x = true by unfold p3; simp only [decide_eq_true_eq]; omega]; rfl) (rfl)
      · omega
    | succ m ih =>
      intro hm r hr
      have ih := ih (by omega) (r / 5) (by omega)
      have e1 : (r : Int).tmod 5 = ((r % 5 : Nat) : Int) := tm_nat r 5
      have e2 : (r : Int).tdiv 5 = ((r / 5 : Nat) : Int) := td_nat r 5
      have hdg := dgt_r m (r / 5)
      have hsm := sumD_r m (r / 5)
      have hwm := worD_r hD hn.2 m (r / 5) (by omega)
      have hps := fun q (hq : q ≤ n) => pull_le hD (f := dgt m (r / 5)) (q := m) (by omega) hdg hn.2 q hq
      obtain ⟨b, hb⟩ : ∃ b : Int, b = ((r % 5 : Nat) : Int) - 2 := ⟨_, rfl⟩
      have hbr : -2 ≤ b ∧ b ≤ 2 := by omega
      rw [sumD_s, worD_s, ← hb, show ((m + 1 : Nat) : Int) - 1 = (m : Int) by omega]
      have hmm := mul_rr (x := b) (y := pull D (dgt m (r / 5)) m m) (c := 2) (e := 360) (by omega) (by omega) (hps m (by omega))
      have inner : ∀ q : Nat, q ≤ m → ∀ s : Nat, s < 15625 → (∀ i, i < q → dgt q s i = dgt m (r / 5) i) → fw_R mX8_isAbove d 49 [some (.ref 18), some (.int (iI x)), some (.int (iI (sumD n x - sumD m (r / 5)))), some (.int (iI (worD D n x - worD D m (r / 5) - b * pull D (dgt m (r / 5)) m q))), some (.int (iI ((r / 5 : Nat) : Int))), some (.int (iI m)), some (.int (iI b)), some (.int (iI s)), some (.int (iI ((q : Int) - 1)))] [] w (some (.int (iI (b2 (p3 n D x))))) w := by
        intro q
        induction q with
        | zero =>
          intro _ s _ _
          rw [show pull D (dgt m (r / 5)) m 0 = 0 from rfl, Int.mul_zero, Int.sub_zero]
          refine fr_iload dX8_isAbove_49 rfl ?_
          refine fr_if_lt (tgt := 87) dX8_isAbove_51 (by decide) (by omega) (fun c => ?_) (fun c => ?_)
          · refine fr_iinc dX8_isAbove_87 rfl (by decide) rfl rfl ?_
            dsimp only [List.set, Option.toList, List.cons_append, List.nil_append]
            refine fr_goto (tgt := 15) dX8_isAbove_90 (by decide) ?_
            rw [show (m : Int) + -1 = (m : Int) - 1 by omega]
            exact ih.wk (by simp [fw_le])
          · omega
        | succ q ihq =>
          intro hq s hs hds
          have e3 : (s : Int).tmod 5 = ((s % 5 : Nat) : Int) := tm_nat s 5
          have e4 : (s : Int).tdiv 5 = ((s / 5 : Nat) : Int) := td_nat s 5
          have e5 : ((s % 5 : Nat) : Int) - 2 = dgt m (r / 5) q := by
            have := hds q (by omega)
            rw [dgt_s, if_pos rfl] at this
            exact this
          have ihq := ihq (by omega) (s / 5) (by omega) (fun i hi => by
            have := hds i (by omega)
            rw [dgt_s, if_neg (by omega)] at this
            exact this)
          have hdq := hdg q
          have hDq := hD q m (by omega) (by omega)
          have m1 := mul_rr (x := b) (y := dgt m (r / 5) q) (c := 2) (e := 2) (by omega) (by omega) (by omega)
          have m2 := mul_r (x := b * dgt m (r / 5) q) (y := D q m) (c := 4) (e := 30) (by omega) (by omega) hDq
          have m3 := mul_rr (x := b) (y := pull D (dgt m (r / 5)) m q) (c := 2) (e := 360) (by omega) (by omega) (hps q (by omega))
          rw [show ((q + 1 : Nat) : Int) - 1 = (q : Int) by omega]
          refine fr_iload dX8_isAbove_49 rfl ?_
          refine fr_if_lt (tgt := 87) dX8_isAbove_51 (by decide) (by omega) (fun c => ?_) (fun c => ?_)
          · omega
          refine fr_iload_n dX8_isAbove_54 rfl ?_
          refine fr_iload dX8_isAbove_55 rfl ?_
          refine fr_iload dX8_isAbove_57 rfl ?_
          refine fr_iconst dX8_isAbove_59 ?_
          refine fr_irem dX8_isAbove_60 (by omega) (by omega) (by omega) ?_
          rw [e3]
          refine fr_iconst dX8_isAbove_61 ?_
          refine fr_isub dX8_isAbove_62 ?_
          rw [e5]
          refine fr_imul dX8_isAbove_63 ?_
          refine fr_aload_n dX8_isAbove_64 rfl ?_
          refine fr_iload dX8_isAbove_65 rfl ?_
          refine fr_iload dX8_isAbove_67 rfl ?_
          refine fr_callV kX8_isAbove_69 (c_mdist (d := 0) h (i := q) (j := m) (by omega) (by omega)) (by omega) h1 rfl rfl rfl ?_
          dsimp only [List.set, Option.toList, List.cons_append, List.nil_append]
          refine fr_imul dX8_isAbove_72 ?_
          refine fr_iadd dX8_isAbove_73 ?_
          refine fr_istore_n dX8_isAbove_74 rfl (by decide) rfl rfl ?_
          dsimp only [List.set, Option.toList, List.cons_append, List.nil_append]
          refine fr_iload dX8_isAbove_75 rfl ?_
          refine fr_iconst dX8_isAbove_77 ?_
          refine fr_idiv dX8_isAbove_78 (by omega) (by omega) (by omega) ?_
          rw [e4]
          refine fr_istore dX8_isAbove_79 (by decide) rfl rfl ?_
          dsimp only [List.set, Option.toList, List.cons_append, List.nil_append]
          refine fr_iinc dX8_isAbove_81 rfl (by decide) rfl rfl ?_
          dsimp only [List.set, Option.toList, List.cons_append, List.nil_append]
          refine fr_goto (tgt := 49) dX8_isAbove_84 (by decide) ?_
          rw [show worD D n x - worD D m (r / 5) - b * pull D (dgt m (r / 5)) m (q + 1) + b * dgt m (r / 5) q * D q m = worD D n x - worD D m (r / 5) - b * pull D (dgt m (r / 5)) m q by rw [pull_s, Int.mul_add, Int.mul_assoc]; omega, show (q : Int) + -1 = (q : Int) - 1 by omega]
          exact ihq
      refine fr_iload dX8_isAbove_15 rfl ?_
      refine fr_if_lt (tgt := 93) dX8_isAbove_17 (by decide) (by omega) (fun c => ?_) (fun c => ?_)
      · omega
      refine fr_iload dX8_isAbove_20 rfl ?_
      refine fr_iconst dX8_isAbove_22 ?_
      refine fr_irem dX8_isAbove_23 (by omega) (by omega) (by omega) ?_
      rw [e1]
      refine fr_iconst dX8_isAbove_24 ?_
      refine fr_isub dX8_isAbove_25 ?_
      rw [← hb]
      refine fr_istore dX8_isAbove_26 (by decide) rfl rfl ?_
      dsimp only [List.set, Option.toList, List.cons_append, List.nil_append]
      refine fr_iload dX8_isAbove_28 rfl ?_
      refine fr_iconst dX8_isAbove_30 ?_
      refine fr_idiv dX8_isAbove_31 (by omega) (by omega) (by omega) ?_
      rw [e2]
      refine fr_istore dX8_isAbove_32 (by decide) rfl rfl ?_
      dsimp only [List.set, Option.toList, List.cons_append, List.nil_append]
      refine fr_iload_n dX8_isAbove_34 rfl ?_
      refine fr_iload dX8_isAbove_35 rfl ?_
      refine fr_iadd dX8_isAbove_37 ?_
      refine fr_istore_n dX8_isAbove_38 rfl (by decide) rfl rfl ?_
      dsimp only [List.set, Option.toList, List.cons_append, List.nil_append]
      refine fr_iload dX8_isAbove_39 rfl ?_
      refine fr_istore dX8_isAbove_41 (by decide) rfl rfl ?_
      dsimp only [List.set, Option.toList, List.cons_append, List.nil_append]
      refine fr_iload dX8_isAbove_43 rfl ?_
      refine fr_iconst dX8_isAbove_45 ?_
      refine fr_isub dX8_isAbove_46 ?_
      refine fr_istore dX8_isAbove_47 (by decide) rfl rfl ?_
      dsimp only [List.set, Option.toList, List.cons_append, List.nil_append]
      have := inner m (Nat.le_refl m) (r / 5) (by omega) (fun i _ => rfl)
      rw [show sumD n x - (sumD m (r / 5) + b) + b = sumD n x - sumD m (r / 5) by omega, show worD D n x - (worD D m (r / 5) + b * pull D (dgt m (r / 5)) m m) = worD D n x - worD D m (r / 5) - b * pull D (dgt m (r / 5)) m m by omega]
      exact this
  have := outer n (Nat.le_refl n) x hx6
  rw [Int.sub_self, Int.sub_self] at this
  refine fw_K.of (by decide) (Nat.le_of_ble_eq_true rfl) (by simp [Value.category]) (rfl) ?_
  show fw_R _ _ 0 [some (.ref 18), some (.int (iI x)), none, none, none, none, none, none, none] [] _ _ _
  refine fr_iconst dX8_isAbove_0 ?_
  refine fr_istore_n dX8_isAbove_1 rfl (by decide) rfl rfl ?_
  dsimp only [List.set, Option.toList, List.cons_append, List.nil_append]
  refine fr_iconst dX8_isAbove_2 ?_
  refine fr_istore_n dX8_isAbove_3 rfl (by decide) rfl rfl ?_
  dsimp only [List.set, Option.toList, List.cons_append, List.nil_append]
  refine fr_iload_n dX8_isAbove_4 rfl ?_
  refine fr_istore dX8_isAbove_5 (by decide) rfl rfl ?_
  dsimp only [List.set, Option.toList, List.cons_append, List.nil_append]
  refine fr_aload_n dX8_isAbove_7 rfl ?_
  refine fr_get fX8_isAbove_8 h1 rfl ?_
  refine fr_iconst dX8_isAbove_11 ?_
  refine fr_isub dX8_isAbove_12 ?_
  refine fr_istore dX8_isAbove_13 (by decide) rfl rfl ?_
  dsimp only [List.set, Option.toList, List.cons_append, List.nil_append]
  exact this
theorem c_misBroken {d n law x : Nat} {D : Nat → Nat → Int} {A B : Int} {w : fw_S} (hd : 2 ≤ d) (h : mA w n D A B) (hD : okR n D 30) (hl : law ≤ 3) (hx : x < limL n law) : fw_K d mX8_isBroken [.ref 18, .int (iI law), .int (iI x)] w (some (.int (iI (b2 (bkL n D law x))))) w := by
  have h1 := h.1
  have hn := h.2.2
  have h5 : (5 : Nat) ^ n ≤ 5 ^ 6 := Nat.pow_le_pow_right (by decide) hn.2
  have hx6 : x < 15625 := by
    unfold limL at hx
    split at hx
    · exact Nat.lt_of_lt_of_le hx h5
    · split at hx <;> omega
  have e1 : (x : Int).tdiv 64 = ((x / 64 : Nat) : Int) := td_nat x 64
  have e2 : ((x / 64 : Nat) : Int).tmod 8 = ((x / 64 % 8 : Nat) : Int) := tm_nat _ 8
  have e3 : (x : Int).tdiv 8 = ((x / 8 : Nat) : Int) := td_nat x 8
  have e4 : ((x / 8 : Nat) : Int).tmod 8 = ((x / 8 % 8 : Nat) : Int) := tm_nat _ 8
  have e5 : (x : Int).tmod 8 = ((x % 8 : Nat) : Int) := tm_nat x 8
  have e6 : (x : Int).tdiv 512 = ((x / 512 : Nat) : Int) := td_nat x 512
  refine fw_K.of (by decide) (Nat.le_of_ble_eq_true rfl) (by simp [Value.category]) (rfl) ?_
  show fw_R _ _ 0 [some (.ref 18), some (.int (iI law)), some (.int (iI x)), none, none, none, none] [] _ _ _
  refine fr_iload_n dX8_isBroken_0 rfl ?_
  refine fr_bipush dX8_isBroken_1 (by decide) ?_
  refine fr_idiv dX8_isBroken_3 (by omega) (by omega) (by omega) ?_
  rw [e1]
  refine fr_bipush dX8_isBroken_4 (by decide) ?_
  refine fr_irem dX8_isBroken_6 (by omega) (by omega) (by omega) ?_
  rw [e2]
  refine fr_istore_n dX8_isBroken_7 rfl (by decide) rfl rfl ?_
  dsimp only [List.set, Option.toList, List.cons_append, List.nil_append]
  refine fr_iload_n dX8_isBroken_8 rfl ?_
  refine fr_bipush dX8_isBroken_9 (by decide) ?_
  refine fr_idiv dX8_isBroken_11 (by omega) (by omega) (by omega) ?_
  rw [e3]
  refine fr_bipush dX8_isBroken_12 (by decide) ?_
  refine fr_irem dX8_isBroken_14 (by omega) (by omega) (by omega) ?_
  rw [e4]
  refine fr_istore dX8_isBroken_15 (by decide) rfl rfl ?_
  dsimp only [List.set, Option.toList, List.cons_append, List.nil_append]
  refine fr_iload_n dX8_isBroken_17 rfl ?_
  refine fr_bipush dX8_isBroken_18 (by decide) ?_
  refine fr_irem dX8_isBroken_20 (by omega) (by omega) (by omega) ?_
  rw [e5]
  refine fr_istore dX8_isBroken_21 (by decide) rfl rfl ?_
  dsimp only [List.set, Option.toList, List.cons_append, List.nil_append]
  refine fr_iload_n dX8_isBroken_23 rfl ?_
  refine fr_iconst dX8_isBroken_24 ?_
  refine fr_icmp_ne (tgt := 34) dX8_isBroken_25 (by decide) (by omega) (by omega) (fun c3 => ?_) (fun c3 => ?_)
  rotate_left
  · have : law = 3 := by omega
    subst this
    refine fr_aload_n dX8_isBroken_28 rfl ?_
    refine fr_iload_n dX8_isBroken_29 rfl ?_
    refine fr_callV kX8_isBroken_30 (c_misAbove (d := 1) (by omega) h hD (by unfold limL at hx; exact hx)) (by omega) h1 rfl rfl rfl ?_
    dsimp only [List.set, Option.toList, List.cons_append, List.nil_append]
    exact fr_zret dX8_isBroken_33 rfl (b2_nar _) rfl rfl
  have hi8 := Nat.mod_lt (x / 64) (show 0 < 8 by decide)
  have hj8 := Nat.mod_lt (x / 8) (show 0 < 8 by decide)
  have hk8 := Nat.mod_lt x (show 0 < 8 by decide)
  refine fr_iload_n dX8_isBroken_34 rfl ?_
  refine fr_iconst dX8_isBroken_35 ?_
  refine fr_icmp_ne (tgt := 134) dX8_isBroken_36 (by decide) (by omega) (by omega) (fun c1 => ?_) (fun c1 => ?_)
  rotate_left
  · have : law = 1 := by omega
    subst this
    have hb1 : bkL n D 1 x = p1 n D x := rfl
    rw [hb1]
    have hp : p1 n D x = decide (x % 8 < n ∧ x / 512 < x / 64 % 8 ∧ x / 64 % 8 < x / 8 % 8 ∧ x / 8 % 8 < x % 8 ∧ alone (D (x / 512) (x / 64 % 8) + D (x / 8 % 8) (x % 8)) (D (x / 512) (x / 8 % 8) + D (x / 64 % 8) (x % 8)) (D (x / 512) (x % 8) + D (x / 64 % 8) (x / 8 % 8)) = true) := rfl
    have hh : x / 512 < 31 := by omega
    refine fr_iload_n dX8_isBroken_39 rfl ?_
    refine fr_sipush dX8_isBroken_40 (by decide) ?_
    refine fr_idiv dX8_isBroken_43 (by omega) (by omega) (by omega) ?_
    rw [e6]
    generalize x / 64 % 8 = i at *
    generalize x / 8 % 8 = j at *
    generalize x % 8 = k at *
    generalize x / 512 = q at *
    have no : ¬ (k < n ∧ q < i ∧ i < j ∧ j < k) → fw_R mX8_isBroken d 132 [some (.ref 18), some (.int (iI ((1 : Nat) : Int))), some (.int (iI x)), some (.int (iI i)), some (.int (iI j)), some (.int (iI k)), some (.int (iI q))] [] w (some (.int (iI (b2 (p1 n D x))))) w := by
      intro z
      rw [show p1 n D x = false by rw [hp]; simp only [decide_eq_false_iff_not]; exact fun y => z ⟨y.1, y.2.1, y.2.2.1, y.2.2.2.1⟩]
      refine fr_iconst dX8_isBroken_132 ?_
      exact fr_zret dX8_isBroken_133 rfl (by decide) (rfl) (rfl)
    refine fr_istore dX8_isBroken_44 (by decide) rfl rfl ?_
    dsimp only [List.set, Option.toList, List.cons_append, List.nil_append]
    refine fr_iload dX8_isBroken_46 rfl ?_
    refine fr_iload_n dX8_isBroken_48 rfl ?_
    refine fr_icmp_ge (tgt := 132) dX8_isBroken_49 (by decide) (by omega) (by omega) (fun c4 => ?_) (fun c4 => ?_)
    · exact no (by omega)
    refine fr_iload_n dX8_isBroken_52 rfl ?_
    refine fr_iload dX8_isBroken_53 rfl ?_
    refine fr_icmp_ge (tgt := 132) dX8_isBroken_55 (by decide) (by omega) (by omega) (fun c5 => ?_) (fun c5 => ?_)
    · exact no (by omega)
    refine fr_iload dX8_isBroken_58 rfl ?_
    refine fr_iload dX8_isBroken_60 rfl ?_
    refine fr_icmp_ge (tgt := 132) dX8_isBroken_62 (by decide) (by omega) (by omega) (fun c6 => ?_) (fun c6 => ?_)
    · exact no (by omega)
    refine fr_iload dX8_isBroken_65 rfl ?_
    refine fr_aload_n dX8_isBroken_67 rfl ?_
    refine fr_get fX8_isBroken_68 h1 rfl ?_
    refine fr_icmp_ge (tgt := 132) dX8_isBroken_71 (by decide) (by omega) (by omega) (fun c7 => ?_) (fun c7 => ?_)
    · exact no (by omega)
    have d1 := hD q i (by omega) (by omega)
    have d2 := hD j k (by omega) (by omega)
    have d3 := hD q j (by omega) (by omega)
    have d4 := hD i k (by omega) (by omega)
    have d5 := hD q k (by omega) (by omega)
    have d6 := hD i j (by omega) (by omega)
    have rb := b2_r (!alone (D q i + D j k) (D q j + D i k) (D q k + D i j))
    refine fr_aload_n dX8_isBroken_74 rfl ?_
    refine fr_iload dX8_isBroken_75 rfl ?_
    refine fr_iload_n dX8_isBroken_77 rfl ?_
    refine fr_callV kX8_isBroken_78 (c_mdist (d := 0) h (i := q) (j := i) (by omega) (by omega)) (by omega) h1 rfl rfl rfl ?_
    dsimp only [List.set, Option.toList, List.cons_append, List.nil_append]
    refine fr_aload_n dX8_isBroken_81 rfl ?_
    refine fr_iload dX8_isBroken_82 rfl ?_
    refine fr_iload dX8_isBroken_84 rfl ?_
    refine fr_callV kX8_isBroken_86 (c_mdist (d := 0) h (i := j) (j := k) (by omega) (by omega)) (by omega) h1 rfl rfl rfl ?_
    dsimp only [List.set, Option.toList, List.cons_append, List.nil_append]
    refine fr_iadd dX8_isBroken_89 ?_
    refine fr_aload_n dX8_isBroken_90 rfl ?_
    refine fr_iload dX8_isBroken_91 rfl ?_
    refine fr_iload dX8_isBroken_93 rfl ?_
    refine fr_callV kX8_isBroken_95 (c_mdist (d := 0) h (i := q) (j := j) (by omega) (by omega)) (by omega) h1 rfl rfl rfl ?_
    dsimp only [List.set, Option.toList, List.cons_append, List.nil_append]
    refine fr_aload_n dX8_isBroken_98 rfl ?_
    refine fr_iload_n dX8_isBroken_99 rfl ?_
    refine fr_iload dX8_isBroken_100 rfl ?_
    refine fr_callV kX8_isBroken_102 (c_mdist (d := 0) h (i := i) (j := k) (by omega) (by omega)) (by omega) h1 rfl rfl rfl ?_
    dsimp only [List.set, Option.toList, List.cons_append, List.nil_append]
    refine fr_iadd dX8_isBroken_105 ?_
    refine fr_aload_n dX8_isBroken_106 rfl ?_
    refine fr_iload dX8_isBroken_107 rfl ?_
    refine fr_iload dX8_isBroken_109 rfl ?_
    refine fr_callV kX8_isBroken_111 (c_mdist (d := 0) h (i := q) (j := k) (by omega) (by omega)) (by omega) h1 rfl rfl rfl ?_
    dsimp only [List.set, Option.toList, List.cons_append, List.nil_append]
    refine fr_aload_n dX8_isBroken_114 rfl ?_
    refine fr_iload_n dX8_isBroken_115 rfl ?_
    refine fr_iload dX8_isBroken_116 rfl ?_
    refine fr_callV kX8_isBroken_118 (c_mdist (d := 0) h (i := i) (j := j) (by omega) (by omega)) (by omega) h1 rfl rfl rfl ?_
    dsimp only [List.set, Option.toList, List.cons_append, List.nil_append]
    refine fr_iadd dX8_isBroken_121 ?_
    refine fr_callS kX8_isBroken_122 (c_misTwice (d := 0) (by omega) (by omega) (by omega)) (by omega) rfl rfl rfl ?_
    dsimp only [List.set, Option.toList, List.cons_append, List.nil_append]
    refine fr_if_ne (tgt := 132) dX8_isBroken_125 (by decide) (by omega) (fun c8 => ?_) (fun c8 => ?_)
    · have c9 := b2_n0.mp c8
      refine fr_iconst dX8_isBroken_132 ?_
      exact fr_zret dX8_isBroken_133 rfl (by decide) (by rw [show p1 n D x = false by rw [hp]; simp only [decide_eq_false_iff_not]; intro y; rw [y.2.2.2.2] at c9; exact absurd c9 (by decide)]; rfl) (rfl)
    · have c9 := b2_0.mp c8
      simp only [Bool.not_eq_false'] at c9
      refine fr_iconst dX8_isBroken_128 ?_
      refine fr_goto (tgt := 133) dX8_isBroken_129 (by decide) ?_
      exact fr_zret dX8_isBroken_133 rfl (by decide) (by rw [show p1 n D x = true by rw [hp]; simp only [decide_eq_true_eq]; exact ⟨by omega, by omega, by omega, by omega, c9⟩]; rfl) (rfl)
  -- laws 0 and 2
  have hb0 : law = 0 → bkL n D law x = decide (x / 64 % 8 < n ∧ x / 8 % 8 < n ∧ x % 8 < n ∧ x / 64 % 8 < x % 8 ∧ x / 8 % 8 ≠ x / 64 % 8 ∧ x / 8 % 8 ≠ x % 8 ∧ D (x / 64 % 8) (x % 8) > D (x / 64 % 8) (x / 8 % 8) + D (x / 8 % 8) (x % 8)) := fun z => by subst z; rfl
  have hb2 : law = 2 → bkL n D law x = decide (x % 8 < n ∧ x / 64 % 8 < x / 8 % 8 ∧ x / 8 % 8 < x % 8 ∧ alone (D (x / 64 % 8) (x / 8 % 8)) (D (x / 64 % 8) (x % 8)) (D (x / 8 % 8) (x % 8)) = true) := fun z => by subst z; rfl
  have hl2 : law = 0 ∨ law = 2 := by omega
  generalize bkL n D law x = q at *
  generalize x / 64 % 8 = i at *
  generalize x / 8 % 8 = j at *
  generalize x % 8 = k at *
  have no : ¬ (i < n ∧ j < n ∧ k < n) → fw_R mX8_isBroken d 160 [some (.ref 18), some (.int (iI law)), some (.int (iI x)), some (.int (iI i)), some (.int (iI j)), some (.int (iI k)), none] [] w (some (.int (iI (b2 q)))) w := by
    intro z
    have : q = false := by
      rcases hl2 with y | y
      · rw [hb0 y]; simp only [decide_eq_false_iff_not]; exact fun u => z ⟨u.1, u.2.1, u.2.2.1⟩
      · rw [hb2 y]; simp only [decide_eq_false_iff_not]; exact fun u => z ⟨by omega, by omega, u.1⟩
    rw [this]
    refine fr_iconst dX8_isBroken_160 ?_
    exact fr_zret dX8_isBroken_161 rfl (by decide) (rfl) (rfl)
  refine fr_iload_n dX8_isBroken_134 rfl ?_
  refine fr_aload_n dX8_isBroken_135 rfl ?_
  refine fr_get fX8_isBroken_136 h1 rfl ?_
  refine fr_icmp_ge (tgt := 160) dX8_isBroken_139 (by decide) (by omega) (by omega) (fun c4 => ?_) (fun c4 => ?_)
  · exact no (by omega)
  refine fr_iload dX8_isBroken_142 rfl ?_
  refine fr_aload_n dX8_isBroken_144 rfl ?_
  refine fr_get fX8_isBroken_145 h1 rfl ?_
  refine fr_icmp_ge (tgt := 160) dX8_isBroken_148 (by decide) (by omega) (by omega) (fun c5 => ?_) (fun c5 => ?_)
  · exact no (by omega)
  refine fr_iload dX8_isBroken_151 rfl ?_
  refine fr_aload_n dX8_isBroken_153 rfl ?_
  refine fr_get fX8_isBroken_154 h1 rfl ?_
  refine fr_icmp_lt (tgt := 162) dX8_isBroken_157 (by decide) (by omega) (by omega) (fun c6 => ?_) (fun c6 => ?_)
  rotate_left
  · exact no (by omega)
  have d3 := hD i j (by omega) (by omega)
  have d4 := hD i k (by omega) (by omega)
  have d6 := hD j k (by omega) (by omega)
  refine fr_iload_n dX8_isBroken_162 rfl ?_
  refine fr_if_ne (tgt := 217) dX8_isBroken_163 (by decide) (by omega) (fun c7 => ?_) (fun c7 => ?_)
  · have y : law = 2 := by omega
    have hq := hb2 y
    have no2 : ¬ (i < j ∧ j < k ∧ alone (D i j) (D i k) (D j k) = true) → fw_R mX8_isBroken d 262 [some (.ref 18), some (.int (iI law)), some (.int (iI x)), some (.int (iI i)), some (.int (iI j)), some (.int (iI k)), none] [] w (some (.int (iI (b2 q)))) w := by
      intro z
      rw [show q = false by rw [hq]; simp only [decide_eq_false_iff_not]; exact fun u => z u.2]
      refine fr_iconst dX8_isBroken_262 ?_
      exact fr_zret dX8_isBroken_263 rfl (by decide) (rfl) (rfl)
    have rb := b2_r (!alone (D i j) (D i k) (D j k))
    refine fr_iload_n dX8_isBroken_217 rfl ?_
    refine fr_iload dX8_isBroken_218 rfl ?_
    refine fr_icmp_ge (tgt := 262) dX8_isBroken_220 (by decide) (by omega) (by omega) (fun c8 => ?_) (fun c8 => ?_)
    · exact no2 (by omega)
    refine fr_iload dX8_isBroken_223 rfl ?_
    refine fr_iload dX8_isBroken_225 rfl ?_
    refine fr_icmp_ge (tgt := 262) dX8_isBroken_227 (by decide) (by omega) (by omega) (fun c9 => ?_) (fun c9 => ?_)
    · exact no2 (by omega)
    refine fr_aload_n dX8_isBroken_230 rfl ?_
    refine fr_iload_n dX8_isBroken_231 rfl ?_
    refine fr_iload dX8_isBroken_232 rfl ?_
    refine fr_callV kX8_isBroken_234 (c_mdist (d := 0) h (i := i) (j := j) (by omega) (by omega)) (by omega) h1 rfl rfl rfl ?_
    dsimp only [List.set, Option.toList, List.cons_append, List.nil_append]
    refine fr_aload_n dX8_isBroken_237 rfl ?_
    refine fr_iload_n dX8_isBroken_238 rfl ?_
    refine fr_iload dX8_isBroken_239 rfl ?_
    refine fr_callV kX8_isBroken_241 (c_mdist (d := 0) h (i := i) (j := k) (by omega) (by omega)) (by omega) h1 rfl rfl rfl ?_
    dsimp only [List.set, Option.toList, List.cons_append, List.nil_append]
    refine fr_aload_n dX8_isBroken_244 rfl ?_
    refine fr_iload dX8_isBroken_245 rfl ?_
    refine fr_iload dX8_isBroken_247 rfl ?_
    refine fr_callV kX8_isBroken_249 (c_mdist (d := 0) h (i := j) (j := k) (by omega) (by omega)) (by omega) h1 rfl rfl rfl ?_
    dsimp only [List.set, Option.toList, List.cons_append, List.nil_append]
    refine fr_callS kX8_isBroken_252 (c_misTwice (d := 0) (by omega) (by omega) (by omega)) (by omega) rfl rfl rfl ?_
    dsimp only [List.set, Option.toList, List.cons_append, List.nil_append]
    refine fr_if_ne (tgt := 262) dX8_isBroken_255 (by decide) (by omega) (fun c10 => ?_) (fun c10 => ?_)
    · have c11 := b2_n0.mp c10
      exact no2 (fun u => by rw [u.2.2] at c11; exact absurd c11 (by decide))
    · have c11 := b2_0.mp c10
      simp only [Bool.not_eq_false'] at c11
      refine fr_iconst dX8_isBroken_258 ?_
      refine fr_goto (tgt := 263) dX8_isBroken_259 (by decide) ?_
      exact fr_zret dX8_isBroken_263 rfl (by decide) (by rw [show q = true by rw [hq]; simp only [decide_eq_true_eq]; exact ⟨by omega, by omega, by omega, c11⟩]; rfl) (rfl)
  · have y : law = 0 := by omega
    have hq := hb0 y
    have no2 : ¬ (i < k ∧ j ≠ i ∧ j ≠ k ∧ D i k > D i j + D j k) → fw_R mX8_isBroken d 215 [some (.ref 18), some (.int (iI law)), some (.int (iI x)), some (.int (iI i)), some (.int (iI j)), some (.int (iI k)), none] [] w (some (.int (iI (b2 q)))) w := by
      intro z
      rw [show q = false by rw [hq]; simp only [decide_eq_false_iff_not]; exact fun u => z u.2.2.2]
      refine fr_iconst dX8_isBroken_215 ?_
      exact fr_zret dX8_isBroken_216 rfl (by decide) (rfl) (rfl)
    refine fr_iload_n dX8_isBroken_166 rfl ?_
    refine fr_iload dX8_isBroken_167 rfl ?_
    refine fr_icmp_ge (tgt := 215) dX8_isBroken_169 (by decide) (by omega) (by omega) (fun c8 => ?_) (fun c8 => ?_)
    · exact no2 (by omega)
    refine fr_iload dX8_isBroken_172 rfl ?_
    refine fr_iload_n dX8_isBroken_174 rfl ?_
    refine fr_icmp_eq (tgt := 215) dX8_isBroken_175 (by decide) (by omega) (by omega) (fun c9 => ?_) (fun c9 => ?_)
    · exact no2 (by omega)
    refine fr_iload dX8_isBroken_178 rfl ?_
    refine fr_iload dX8_isBroken_180 rfl ?_
    refine fr_icmp_eq (tgt := 215) dX8_isBroken_182 (by decide) (by omega) (by omega) (fun c10 => ?_) (fun c10 => ?_)
    · exact no2 (by omega)
    refine fr_aload_n dX8_isBroken_185 rfl ?_
    refine fr_iload_n dX8_isBroken_186 rfl ?_
    refine fr_iload dX8_isBroken_187 rfl ?_
    refine fr_callV kX8_isBroken_189 (c_mdist (d := 0) h (i := i) (j := k) (by omega) (by omega)) (by omega) h1 rfl rfl rfl ?_
    dsimp only [List.set, Option.toList, List.cons_append, List.nil_append]
    refine fr_aload_n dX8_isBroken_192 rfl ?_
    refine fr_iload_n dX8_isBroken_193 rfl ?_
    refine fr_iload dX8_isBroken_194 rfl ?_
    refine fr_callV kX8_isBroken_196 (c_mdist (d := 0) h (i := i) (j := j) (by omega) (by omega)) (by omega) h1 rfl rfl rfl ?_
    dsimp only [List.set, Option.toList, List.cons_append, List.nil_append]
    refine fr_aload_n dX8_isBroken_199 rfl ?_
    refine fr_iload dX8_isBroken_200 rfl ?_
    refine fr_iload dX8_isBroken_202 rfl ?_
    refine fr_callV kX8_isBroken_204 (c_mdist (d := 0) h (i := j) (j := k) (by omega) (by omega)) (by omega) h1 rfl rfl rfl ?_
    dsimp only [List.set, Option.toList, List.cons_append, List.nil_append]
    refine fr_iadd dX8_isBroken_207 ?_
    refine fr_icmp_le (tgt := 215) dX8_isBroken_208 (by decide) (by omega) (by omega) (fun c11 => ?_) (fun c11 => ?_)
    · exact no2 (by omega)
    · refine fr_iconst dX8_isBroken_211 ?_
      refine fr_goto (tgt := 216) dX8_isBroken_212 (by decide) ?_
      exact fr_zret dX8_isBroken_216 rfl (by decide) (by rw [show q = true by rw [hq]; simp only [decide_eq_true_eq]; exact ⟨by omega, by omega, by omega, by omega, by omega, by omega, by omega⟩]; rfl) (rfl)
theorem c_mcases {d n law : Nat} {D : Nat → Nat → Int} {A B : Int} {w : fw_S} (h : mA w n D A B) (hl : law ≤ 3) : fw_K d mX8_cases [.ref 18, .int (iI law)] w (some (.int (iI (limL n law)))) w := by
  have h1 := h.1
  have hn := h.2.2
  have hle : ∀ k : Nat, k ≤ n → 5 ^ k ≤ 15625 := fun k hk => Nat.pow_le_pow_right (n := 5) (j := 6) (by decide) (by omega)
  refine fw_K.of (by decide) (Nat.le_of_ble_eq_true rfl) (by simp [Value.category]) (rfl) ?_
  show fw_R _ _ 0 [some (.ref 18), some (.int (iI law)), none, none] [] _ _ _
  refine fr_iconst dX8_cases_0 ?_
  refine fr_istore_n dX8_cases_1 rfl (by decide) rfl rfl ?_
  dsimp only [List.set, Option.toList, List.cons_append, List.nil_append]
  refine fr_iconst dX8_cases_2 ?_
  refine fr_istore_n dX8_cases_3 rfl (by decide) rfl rfl ?_
  dsimp only [List.set, Option.toList, List.cons_append, List.nil_append]
  refine up_loop (fun k => fw_R mX8_cases d 4 [some (.ref 18), some (.int (iI law)), some (.int (iI ((5 ^ k : Nat) : Int))), some (.int (iI k))] [] w (some (.int (iI (limL n law)))) w) n ?_ ?_ 0 (Nat.zero_le _)
  · have hk := hle n (Nat.le_refl n)
    refine fr_iload_n dX8_cases_4 rfl ?_
    refine fr_aload_n dX8_cases_5 rfl ?_
    refine fr_get fX8_cases_6 h1 rfl ?_
    refine fr_icmp_ge (tgt := 22) dX8_cases_9 (by decide) (by omega) (by omega) (fun c => ?_) (fun c => ?_)
    · refine fr_iload_n dX8_cases_22 rfl ?_
      refine fr_iconst dX8_cases_23 ?_
      refine fr_icmp_ne (tgt := 31) dX8_cases_24 (by decide) (by omega) (by omega) (fun c1 => ?_) (fun c1 => ?_)
      · refine fr_iload_n dX8_cases_31 rfl ?_
        refine fr_iconst dX8_cases_32 ?_
        refine fr_icmp_ne (tgt := 42) dX8_cases_33 (by decide) (by omega) (by omega) (fun c2 => ?_) (fun c2 => ?_)
        · refine fr_sipush dX8_cases_42 (by decide) ?_
          exact fr_iret dX8_cases_45 rfl (by rw [limL, if_neg (by omega), if_neg (by omega)]; rfl) (rfl)
        · refine fr_sipush dX8_cases_36 (by decide) ?_
          refine fr_goto (tgt := 45) dX8_cases_39 (by decide) ?_
          exact fr_iret dX8_cases_45 rfl (by rw [limL, if_neg (by omega), if_pos (by omega)]; rfl) (rfl)
      · refine fr_iload_n dX8_cases_27 rfl ?_
        refine fr_goto (tgt := 45) dX8_cases_28 (by decide) ?_
        exact fr_iret dX8_cases_45 rfl (by rw [limL, if_pos (by omega)]) (rfl)
    · omega
  · intro k hk ih
    have hk5 := hle (k + 1) (by omega)
    refine fr_iload_n dX8_cases_4 rfl ?_
    refine fr_aload_n dX8_cases_5 rfl ?_
    refine fr_get fX8_cases_6 h1 rfl ?_
    refine fr_icmp_ge (tgt := 22) dX8_cases_9 (by decide) (by omega) (by omega) (fun c => ?_) (fun c => ?_)
    · omega
    refine fr_iload_n dX8_cases_12 rfl ?_
    refine fr_iconst dX8_cases_13 ?_
    refine fr_imul dX8_cases_14 ?_
    refine fr_istore_n dX8_cases_15 rfl (by decide) rfl rfl ?_
    dsimp only [List.set, Option.toList, List.cons_append, List.nil_append]
    refine fr_iinc dX8_cases_16 rfl (by decide) rfl rfl ?_
    dsimp only [List.set, Option.toList, List.cons_append, List.nil_append]
    refine fr_goto (tgt := 4) dX8_cases_19 (by decide) ?_
    rw [show ((5 ^ k : Nat) : Int) * 5 = ((5 ^ (k + 1) : Nat) : Int) by rw [Nat.pow_succ, Int.natCast_mul]; rfl]
    exact ih
theorem sc_first {p : Nat → Bool} {m : Nat} (h : ∀ k, k < m → p k = false) (hm : p m = true) : ∀ q : Nat, scF p (m + 1 + q) = (m : Int) ∧ 1 ≤ scC p (m + 1 + q)
  | 0 => by
    have := scC_0.mpr h
    rw [Nat.add_zero, scF_s, scC_s, hm, this]; simp
  | q + 1 => by
    have ih := sc_first h hm q
    rw [show m + 1 + (q + 1) = (m + 1 + q) + 1 by omega, scF_s, scC_s]
    refine ⟨?_, ?_⟩
    · rw [if_neg (fun z => by have := z.2; omega)]; exact ih.1
    · split <;> omega
theorem sc_none {p : Nat → Bool} {m : Nat} (h : ∀ k, k < m → p k = false) : scF p m = -4 := (sc_skip (p := p) (m := 0) (Nat.zero_le m) (fun k _ hk => h k hk)).1
theorem limL_r {n : Nat} (hn : n ≤ 6) (law : Nat) : limL n law ≤ 15625 := by
  have : (5 : Nat) ^ n ≤ 5 ^ 6 := Nat.pow_le_pow_right (by decide) hn
  unfold limL; split; exact this; split <;> omega
theorem c_mlaw {d n : Nat} {D : Nat → Nat → Int} {A B l : Int} {w : fw_S} (hd : 3 ≤ d) (h : mA w n D A B) (hD : okR n D 30) (hl : -2147483648 ≤ l ∧ l ≤ 2147483647) : fw_K d mX8_law [.ref 18, .int (iI l)] w (some (.int (iI (if 0 ≤ l ∧ l ≤ 3 then scF (bkL n D l.toNat) (limL n l.toNat) else -1)))) w := by
  have h1 := h.1
  have hn := h.2.2
  have hin := c_in (d := 0) (w := w) (v := l) (lo := 0) (hi := 3) hl (by omega) (by omega)
  by_cases hc : 0 ≤ l ∧ l ≤ 3
  · rw [if_pos hc]
    obtain ⟨law, rfl⟩ := Int.eq_ofNat_of_zero_le hc.1
    rw [Int.toNat_natCast]
    rw [show decide ((0 : Int) ≤ (law : Int) ∧ (law : Int) ≤ 3) = true by simp only [decide_eq_true_eq]; exact hc] at hin
    have hcs := c_mcases (d := 0) (law := law) h (by omega)
    have hlim := limL_r hn.2 law
    have hbr := fun x (hx : x < limL n law) => c_misBroken (d := 2) (law := law) (x := x) (by omega) h hD (by omega) hx
    obtain ⟨p, hp⟩ : ∃ p, p = bkL n D law := ⟨_, rfl⟩
    rw [← hp] at hbr ⊢
    generalize limL n law = P at *
    refine fw_K.of (by decide) (Nat.le_of_ble_eq_true rfl) (by simp [Value.category]) (rfl) ?_
    show fw_R _ _ 0 [some (.ref 18), some (.int (iI law)), none] [] _ _ _
    refine fr_iload_n dX8_law_0 rfl ?_
    refine fr_iconst dX8_law_1 ?_
    refine fr_iconst dX8_law_2 ?_
    refine fr_callS kX8_law_3 (hin) (by omega) rfl rfl rfl ?_
    dsimp only [List.set, Option.toList, List.cons_append, List.nil_append]
    refine fr_if_ne (tgt := 11) dX8_law_6 (by decide) (by decide) (fun c => ?_) (fun c => ?_)
    · refine fr_iconst dX8_law_11 ?_
      refine fr_istore_n dX8_law_12 rfl (by decide) rfl rfl ?_
      dsimp only [List.set, Option.toList, List.cons_append, List.nil_append]
      refine up_loop (fun x => (∀ k, k < x → p k = false) → fw_R mX8_law d 13 [some (.ref 18), some (.int (iI law)), some (.int (iI x))] [] w (some (.int (iI (scF p P)))) w) P ?_ ?_ 0 (Nat.zero_le _) (fun k hk => absurd hk (Nat.not_lt_zero k))
      · intro hall
        rw [sc_none hall]
        refine fr_iload_n dX8_law_13 rfl ?_
        refine fr_aload_n dX8_law_14 rfl ?_
        refine fr_iload_n dX8_law_15 rfl ?_
        refine fr_callV kX8_law_16 (hcs) (by omega) h1 rfl rfl rfl ?_
        dsimp only [List.set, Option.toList, List.cons_append, List.nil_append]
        refine fr_icmp_ge (tgt := 39) dX8_law_19 (by decide) (by omega) (by omega) (fun c2 => ?_) (fun c2 => ?_)
        · refine fr_bipush dX8_law_39 (by decide) ?_
          exact fr_iret dX8_law_41 rfl (rfl) (rfl)
        · omega
      · intro x hx ih hall
        have rb := b2_r (p x)
        refine fr_iload_n dX8_law_13 rfl ?_
        refine fr_aload_n dX8_law_14 rfl ?_
        refine fr_iload_n dX8_law_15 rfl ?_
        refine fr_callV kX8_law_16 (hcs) (by omega) h1 rfl rfl rfl ?_
        dsimp only [List.set, Option.toList, List.cons_append, List.nil_append]
        refine fr_icmp_ge (tgt := 39) dX8_law_19 (by decide) (by omega) (by omega) (fun c2 => ?_) (fun c2 => ?_)
        · omega
        refine fr_aload_n dX8_law_22 rfl ?_
        refine fr_iload_n dX8_law_23 rfl ?_
        refine fr_iload_n dX8_law_24 rfl ?_
        refine fr_callV kX8_law_25 (hbr x hx) (by omega) h1 rfl rfl rfl ?_
        dsimp only [List.set, Option.toList, List.cons_append, List.nil_append]
        refine fr_if_eq (tgt := 33) dX8_law_28 (by decide) (by omega) (fun c3 => ?_) (fun c3 => ?_)
        · refine fr_iinc dX8_law_33 rfl (by decide) rfl rfl ?_
          dsimp only [List.set, Option.toList, List.cons_append, List.nil_append]
          refine fr_goto (tgt := 13) dX8_law_36 (by decide) ?_
          exact ih (fun k hk => by
            by_cases e : k = x
            · subst e; exact b2_0.mp c3
            · exact hall k (by omega))
        · have := (sc_first hall (b2_n0.mp c3) (P - (x + 1))).1
          rw [show x + 1 + (P - (x + 1)) = P by omega] at this
          refine fr_iload_n dX8_law_31 rfl ?_
          exact fr_iret dX8_law_32 rfl (by rw [this]) (rfl)
    · exact absurd c (by decide)
  · rw [if_neg hc]
    rw [show decide (0 ≤ l ∧ l ≤ 3) = false by simp only [decide_eq_false_iff_not]; exact hc] at hin
    refine fw_K.of (by decide) (Nat.le_of_ble_eq_true rfl) (by simp [Value.category]) (rfl) ?_
    show fw_R _ _ 0 [some (.ref 18), some (.int (iI l)), none] [] _ _ _
    refine fr_iload_n dX8_law_0 rfl ?_
    refine fr_iconst dX8_law_1 ?_
    refine fr_iconst dX8_law_2 ?_
    refine fr_callS kX8_law_3 (hin) (by omega) rfl rfl rfl ?_
    dsimp only [List.set, Option.toList, List.cons_append, List.nil_append]
    refine fr_if_ne (tgt := 11) dX8_law_6 (by decide) (by decide) (fun c => ?_) (fun c => ?_)
    · exact absurd rfl c
    · refine fr_iconst dX8_law_9 ?_
      exact fr_iret dX8_law_10 rfl (rfl) (rfl)
theorem c_mbreaks {d n : Nat} {D : Nat → Nat → Int} {A B l : Int} {w : fw_S} (hd : 3 ≤ d) (h : mA w n D A B) (hD : okR n D 30) (hl : -2147483648 ≤ l ∧ l ≤ 2147483647) : fw_K d mX8_breaks [.ref 18, .int (iI l)] w (some (.int (iI (if 0 ≤ l ∧ l ≤ 3 then scC (bkL n D l.toNat) (limL n l.toNat) else -1)))) w := by
  have h1 := h.1
  have hn := h.2.2
  have hin := c_in (d := 0) (w := w) (v := l) (lo := 0) (hi := 3) hl (by omega) (by omega)
  by_cases hc : 0 ≤ l ∧ l ≤ 3
  · rw [if_pos hc]
    obtain ⟨law, rfl⟩ := Int.eq_ofNat_of_zero_le hc.1
    rw [Int.toNat_natCast]
    rw [show decide ((0 : Int) ≤ (law : Int) ∧ (law : Int) ≤ 3) = true by simp only [decide_eq_true_eq]; exact hc] at hin
    have hcs := c_mcases (d := 0) (law := law) h (by omega)
    have hlim := limL_r hn.2 law
    have hbr := fun x (hx : x < limL n law) => c_misBroken (d := 2) (law := law) (x := x) (by omega) h hD (by omega) hx
    obtain ⟨p, hp⟩ : ∃ p, p = bkL n D law := ⟨_, rfl⟩
    rw [← hp] at hbr ⊢
    generalize limL n law = P at *
    refine fw_K.of (by decide) (Nat.le_of_ble_eq_true rfl) (by simp [Value.category]) (rfl) ?_
    show fw_R _ _ 0 [some (.ref 18), some (.int (iI law)), none, none] [] _ _ _
    refine fr_iload_n dX8_breaks_0 rfl ?_
    refine fr_iconst dX8_breaks_1 ?_
    refine fr_iconst dX8_breaks_2 ?_
    refine fr_callS kX8_breaks_3 (hin) (by omega) rfl rfl rfl ?_
    dsimp only [List.set, Option.toList, List.cons_append, List.nil_append]
    refine fr_if_ne (tgt := 11) dX8_breaks_6 (by decide) (by decide) (fun c => ?_) (fun c => ?_)
    · refine fr_iconst dX8_breaks_11 ?_
      refine fr_istore_n dX8_breaks_12 rfl (by decide) rfl rfl ?_
      dsimp only [List.set, Option.toList, List.cons_append, List.nil_append]
      refine fr_iconst dX8_breaks_13 ?_
      refine fr_istore_n dX8_breaks_14 rfl (by decide) rfl rfl ?_
      dsimp only [List.set, Option.toList, List.cons_append, List.nil_append]
      refine up_loop (fun x => fw_R mX8_breaks d 15 [some (.ref 18), some (.int (iI law)), some (.int (iI (scC p x))), some (.int (iI x))] [] w (some (.int (iI (scC p P)))) w) P ?_ ?_ 0 (Nat.zero_le _)
      · refine fr_iload_n dX8_breaks_15 rfl ?_
        refine fr_aload_n dX8_breaks_16 rfl ?_
        refine fr_iload_n dX8_breaks_17 rfl ?_
        refine fr_callV kX8_breaks_18 (hcs) (by omega) h1 rfl rfl rfl ?_
        dsimp only [List.set, Option.toList, List.cons_append, List.nil_append]
        refine fr_icmp_ge (tgt := 47) dX8_breaks_21 (by decide) (by omega) (by omega) (fun c2 => ?_) (fun c2 => ?_)
        · refine fr_iload_n dX8_breaks_47 rfl ?_
          exact fr_iret dX8_breaks_48 rfl (rfl) (rfl)
        · omega
      · intro x hx ih
        have rb := b2_r (p x)
        rw [scC_s] at ih
        refine fr_iload_n dX8_breaks_15 rfl ?_
        refine fr_aload_n dX8_breaks_16 rfl ?_
        refine fr_iload_n dX8_breaks_17 rfl ?_
        refine fr_callV kX8_breaks_18 (hcs) (by omega) h1 rfl rfl rfl ?_
        dsimp only [List.set, Option.toList, List.cons_append, List.nil_append]
        refine fr_icmp_ge (tgt := 47) dX8_breaks_21 (by decide) (by omega) (by omega) (fun c2 => ?_) (fun c2 => ?_)
        · omega
        refine fr_iload_n dX8_breaks_24 rfl ?_
        refine fr_aload_n dX8_breaks_25 rfl ?_
        refine fr_iload_n dX8_breaks_26 rfl ?_
        refine fr_iload_n dX8_breaks_27 rfl ?_
        refine fr_callV kX8_breaks_28 (hbr x hx) (by omega) h1 rfl rfl rfl ?_
        dsimp only [List.set, Option.toList, List.cons_append, List.nil_append]
        refine fr_if_eq (tgt := 38) dX8_breaks_31 (by decide) (by omega) (fun c3 => ?_) (fun c3 => ?_)
        · rw [b2_0.mp c3, if_neg (by decide)] at ih
          refine fr_iconst dX8_breaks_38 ?_
          refine fr_iadd dX8_breaks_39 ?_
          refine fr_istore_n dX8_breaks_40 rfl (by decide) rfl rfl ?_
          dsimp only [List.set, Option.toList, List.cons_append, List.nil_append]
          refine fr_iinc dX8_breaks_41 rfl (by decide) rfl rfl ?_
          dsimp only [List.set, Option.toList, List.cons_append, List.nil_append]
          refine fr_goto (tgt := 15) dX8_breaks_44 (by decide) ?_
          exact ih
        · rw [b2_n0.mp c3, if_pos rfl] at ih
          refine fr_iconst dX8_breaks_34 ?_
          refine fr_goto (tgt := 39) dX8_breaks_35 (by decide) ?_
          refine fr_iadd dX8_breaks_39 ?_
          refine fr_istore_n dX8_breaks_40 rfl (by decide) rfl rfl ?_
          dsimp only [List.set, Option.toList, List.cons_append, List.nil_append]
          refine fr_iinc dX8_breaks_41 rfl (by decide) rfl rfl ?_
          dsimp only [List.set, Option.toList, List.cons_append, List.nil_append]
          refine fr_goto (tgt := 15) dX8_breaks_44 (by decide) ?_
          exact ih
    · exact absurd c (by decide)
  · rw [if_neg hc]
    rw [show decide (0 ≤ l ∧ l ≤ 3) = false by simp only [decide_eq_false_iff_not]; exact hc] at hin
    refine fw_K.of (by decide) (Nat.le_of_ble_eq_true rfl) (by simp [Value.category]) (rfl) ?_
    show fw_R _ _ 0 [some (.ref 18), some (.int (iI l)), none, none] [] _ _ _
    refine fr_iload_n dX8_breaks_0 rfl ?_
    refine fr_iconst dX8_breaks_1 ?_
    refine fr_iconst dX8_breaks_2 ?_
    refine fr_callS kX8_breaks_3 (hin) (by omega) rfl rfl rfl ?_
    dsimp only [List.set, Option.toList, List.cons_append, List.nil_append]
    refine fr_if_ne (tgt := 11) dX8_breaks_6 (by decide) (by decide) (fun c => ?_) (fun c => ?_)
    · exact absurd rfl c
    · refine fr_iconst dX8_breaks_9 ?_
      exact fr_iret dX8_breaks_10 rfl (rfl) (rfl)
