/-! the class's own methods, second half -/
theorem nW_min {D : Nat → Nat → Int} {set i : Nat} : ∀ j : Nat, nearW 30 D set i j = min 30 (nearW 99 D set i j)
  | 0 => by unfold nearW; omega
  | j + 1 => by
    rw [nearW_s, nearW_s, nW_min j]
    split <;> omega
theorem nW_le {D : Nat → Nat → Int} {n set i : Nat} (hD : okR n D 30) (hi : i < n) : ∀ j : Nat, j ≤ n → (∃ k, k < j ∧ set.testBit k = true) → nearW 99 D set i j ≤ 30
  | 0, _, ⟨k, hk, _⟩ => by omega
  | j + 1, hj, ⟨k, hk, hb⟩ => by
    rw [nearW_s]
    have hd := hD i j hi (by omega)
    by_cases hq : set.testBit j = true
    · rw [if_pos hq]; omega
    · rw [if_neg hq]
      refine nW_le hD hi j (by omega) ⟨k, ?_, hb⟩
      rcases Nat.lt_or_ge k j with h | h
      · exact h
      · exact absurd ((show k = j by omega) ▸ hb) hq
theorem nW_eq {D : Nat → Nat → Int} {n set i : Nat} (hD : okR n D 30) (hi : i < n) (h : ∃ k, k < n ∧ set.testBit k = true) : nearW 30 D set i n = nearW 99 D set i n := by
  rw [nW_min n]
  have := nW_le hD hi n (Nat.le_refl n) h
  omega
theorem cS_eq {D : Nat → Nat → Int} {n set : Nat} (hD : okR n D 30) (h : ∃ k, k < n ∧ set.testBit k = true) : ∀ i : Nat, i ≤ n → costS 30 n D set i = costS 99 n D set i ∧ costM 30 n D set i = costM 99 n D set i
  | 0, _ => ⟨rfl, rfl⟩
  | i + 1, hi => by
    have ih := cS_eq hD h i (by omega)
    rw [costS_s, costS_s, costM_s, costM_s, ih.1, ih.2, nW_eq hD (by omega) h]
    exact ⟨rfl, rfl⟩
theorem bit_ex : ∀ m : Nat, m < 64 → 1 ≤ m → ∃ k : Nat, k < 6 ∧ m.testBit k = true := by decide +kernel
theorem pc_pow : ∀ k : Nat, k < 7 → popc (2 ^ k - 1) = k := by decide +kernel
theorem cA_eq {D : Nat → Nat → Int} {n m : Nat} (hn : n ≤ 6) (hD : okR n D 30) (hm : m < 2 ^ n) (h1 : 1 ≤ m) (s : Bool) : costA 30 n D s m = costA 99 n D s m := by
  have hp := p2_le hn
  obtain ⟨k, hk, hb⟩ := bit_ex m (by omega) h1
  have hkn : k < n := by
    have h2 := Nat.ge_two_pow_of_testBit hb
    exact (Nat.pow_lt_pow_iff_right (a := 2) (by decide)).mp (by omega)
  have := cS_eq hD ⟨k, hkn, hb⟩ n (Nat.le_refl n)
  unfold costA
  rw [this.1, this.2]
theorem cen_eq {D : Nat → Nat → Int} {n k : Nat} (hn : n ≤ 6) (hD : okR n D 30) (hk : 1 ≤ k) (s : Bool) : ∀ m : Nat, m ≤ 2 ^ n → cenS 30 n D k s m = cenS 99 n D k s m
  | 0, _ => rfl
  | m + 1, hm => by
    rw [cenS_s, cenS_s, cen_eq hn hD hk s m (by omega)]
    by_cases hq : popc m = k
    · have h1 : 1 ≤ m := by
        rcases Nat.eq_zero_or_pos m with e | e
        · subst e
          have h3 : popc 0 = 0 := by decide
          omega
        · exact e
      rw [cA_eq hn hD (by omega) h1 s]
    · rw [if_neg (fun z => hq z.1), if_neg (fun z => hq z.1)]
theorem cen_some {D : Nat → Nat → Int} {n k : Nat} (hn : n ≤ 6) (hD : okR n D 30) (hk : 1 ≤ k ∧ k ≤ n) (s : Bool) : (cenS 30 n D k s (2 ^ n)).2 = costA 30 n D s (cenS 30 n D k s (2 ^ n)).1 ∧ (cenS 30 n D k s (2 ^ n)).1 < 64 := by
  have key : ∀ m : Nat, 2 ^ k - 1 < m → (cenS 30 n D k s m).2 ≤ 600 := by
    intro m
    induction m with
    | zero => intro h; omega
    | succ m ih =>
      intro h
      rw [cenS_s]
      have hc := costA_r (top := 30) (by omega) (by omega) hn hD s m
      by_cases hq : popc m = k ∧ costA 30 n D s m < (cenS 30 n D k s m).2
      · rw [if_pos hq]; exact hc.2
      · rw [if_neg hq]
        rcases Nat.lt_or_ge (2 ^ k - 1) m with h2 | h2
        · exact ih h2
        · have e : m = 2 ^ k - 1 := by omega
          have hp := pc_pow k (by omega)
          rw [← e] at hp
          have : ¬ costA 30 n D s m < (cenS 30 n D k s m).2 := fun z => hq ⟨hp, z⟩
          omega
  have h1 : 2 ^ k ≤ 2 ^ n := Nat.pow_le_pow_right (by decide) hk.2
  have h2 : 1 ≤ 2 ^ k := Nat.one_le_two_pow
  have h3 := key (2 ^ n) (by omega)
  have hpn := p2_le hn
  rcases cenS_r (top := 30) (by omega) (by omega) hn hD hk.1 s (2 ^ n) with h | h
  · omega
  · exact ⟨h.2.2, by omega⟩
section PC2
variable {n : Nat} {D : Nat → Nat → Int} {num : Nat → Int} {w : fw_S}
theorem p_bulk {k : Int} (h : WC w n D num) (hT : okT n D) (hk : -2147483648 ≤ k ∧ k ≤ 2147483647) : PC mX7_bulk [.int (iI k)] w (.long (lI (bulkZ n D k))) n D num := by
  have hn := h.2.1.2.2
  by_cases hc : 2 ≤ k ∧ k ≤ n
  · obtain ⟨q, rfl⟩ := Int.eq_ofNat_of_zero_le (show 0 ≤ k by omega)
    unfold bulkZ
    rw [if_pos hc, Int.toNat_natCast]
    obtain ⟨a5, f, a6⟩ := h.2.2.2.1
    have hp1 : 2 ^ (q - 1) ≤ 2 ^ (n - 1) := Nat.pow_le_pow_right (by decide) (by omega)
    have hp2 : 2 ^ (n - 1) ≤ 32 := Nat.pow_le_pow_right (n := 2) (j := 5) (by decide) (by omega)
    have hp3 : 1 ≤ 2 ^ (q - 1) := Nat.one_le_two_pow
    obtain ⟨w', f', k1, k2, k3⟩ := c_determinant (d := 12) (rows := 2 ^ (q - 1) - 1) (by omega) (show mi w 5 1 2 6 n D f from ⟨a5, h.2.1, a6⟩) hT.1 (by omega)
    refine ⟨w', ?_, h.mn ⟨k2.1, f', k2.2.2⟩ k3, k3.mono (by intro k hk; omega)⟩
    have hsh := iI_shl (m := 1) (q - 1) (by omega) (by omega)
    rw [Nat.one_mul] at hsh
    rw [show ((q - 1 : Nat) : Int) = (q : Int) - 1 by omega] at hsh
    rw [show ((2 ^ (q - 1) - 1 : Nat) : Int) = ((2 ^ (q - 1) : Nat) : Int) - 1 by omega] at k1
    refine fw_K.of (by decide) (Nat.le_of_ble_eq_true rfl) (by simp [Value.category]) (k1.1) ?_
    show fw_R _ _ 0 [some (.ref 0), some (.int (iI q))] [] _ _ _
    refine fr_iload_n dX7_bulk_0 rfl ?_
    refine fr_iconst dX7_bulk_1 ?_
    refine fr_icmp_lt (tgt := 16) dX7_bulk_2 (by decide) (by omega) (by omega) (fun c => ?_) (fun c => ?_)
    · omega
    refine fr_iload_n dX7_bulk_5 rfl ?_
    refine fr_aload_n dX7_bulk_6 rfl ?_
    refine fr_get fX7_bulk_7 h.1 rfl ?_
    refine fr_get fX7_bulk_10 h.2.1.1 rfl ?_
    refine fr_icmp_le (tgt := 20) dX7_bulk_13 (by decide) (by omega) (by omega) (fun c2 => ?_) (fun c2 => ?_)
    rotate_left
    · omega
    refine fr_aload_n dX7_bulk_20 rfl ?_
    refine fr_get fX7_bulk_21 h.1 rfl ?_
    refine fr_iconst dX7_bulk_24 ?_
    refine fr_iload_n dX7_bulk_25 rfl ?_
    refine fr_iconst dX7_bulk_26 ?_
    refine fr_isub dX7_bulk_27 ?_
    refine fr_ishl (((2 ^ (q - 1) : Nat) : Int)) dX7_bulk_28 (hsh) ?_
    refine fr_iconst dX7_bulk_29 ?_
    refine fr_isub dX7_bulk_30 ?_
    refine fr_callV kX7_bulk_31 (k1) (by omega) a5 rfl rfl rfl ?_
    dsimp only [List.set, Option.toList, List.cons_append, List.nil_append]
    exact fr_lret dX7_bulk_34 rfl (rfl) (rfl)
  · unfold bulkZ
    rw [if_neg hc]
    refine ⟨w, ?_, h, kp.rf⟩
    have bad : fw_R mX7_bulk 13 16 [some (.ref 0), some (.int (iI k))] [] w (some (.long (lI (-2000000000000000000)))) w := by
      refine fr_ldc2 (v := lI (-2000000000000000000)) dX7_bulk_16 (okm (i := 338) rfl rfl) ?_
      exact fr_lret dX7_bulk_19 rfl (rfl) (rfl)
    refine fw_K.of (by decide) (Nat.le_of_ble_eq_true rfl) (by simp [Value.category]) (rfl) ?_
    show fw_R _ _ 0 [some (.ref 0), some (.int (iI k))] [] _ _ _
    refine fr_iload_n dX7_bulk_0 rfl ?_
    refine fr_iconst dX7_bulk_1 ?_
    refine fr_icmp_lt (tgt := 16) dX7_bulk_2 (by decide) (by omega) (by omega) (fun c => ?_) (fun c => ?_)
    · exact bad
    refine fr_iload_n dX7_bulk_5 rfl ?_
    refine fr_aload_n dX7_bulk_6 rfl ?_
    refine fr_get fX7_bulk_7 h.1 rfl ?_
    refine fr_get fX7_bulk_10 h.2.1.1 rfl ?_
    refine fr_icmp_le (tgt := 20) dX7_bulk_13 (by decide) (by omega) (by omega) (fun c2 => ?_) (fun c2 => ?_)
    · omega
    · exact bad
theorem cut_lt {cut : Int} (hn : n ≤ 6) (hc : isCut n cut = true) : 0 < cut ∧ cut < 64 := by
  unfold isCut at hc
  have := p2_le hn
  simp only [decide_eq_true_eq] at hc
  omega
theorem p_add {cut t : Int} (h : WC w n D num) (hT : okT n D) (hc : -2147483648 ≤ cut ∧ cut ≤ 2147483647) (ht : -2147483648 ≤ t ∧ t ≤ 2147483647) :
    (¬ (isCut n cut = true ∧ -30 ≤ t ∧ t ≤ 30) → PC mX7_add [.int (iI cut), .int (iI t)] w (.int (iI (-1))) n D num) ∧
    ((isCut n cut = true ∧ -30 ≤ t ∧ t ≤ 30) → ¬ bearsP n D cut.toNat t → PC mX7_add [.int (iI cut), .int (iI t)] w (.int (iI (-2))) n D num) ∧
    ((isCut n cut = true ∧ -30 ≤ t ∧ t ≤ 30) → bearsP n D cut.toNat t → PC mX7_add [.int (iI cut), .int (iI t)] w (.int (iI 0)) n (cutD D cut.toNat t) num) := by
  have hb := h.2.1
  have hn := hb.2.2
  have hq := c_hasCut (d := 1) (by omega) hb hc
  have r1 := b2_r (isCut n cut)
  have h60 : okR n D 60 := fun i j hi hj => by have := hT.1 i j hi hj; omega
  refine ⟨?_, ?_, ?_⟩
  · intro hno
    refine ⟨w, ?_, h, kp.rf⟩
    have bad : fw_R mX7_add 13 23 [some (.ref 0), some (.int (iI cut)), some (.int (iI t))] [] w (some (.int (iI (-1)))) w := by
      refine fr_iconst dX7_add_23 ?_
      exact fr_iret dX7_add_24 rfl (rfl) (rfl)
    refine fw_K.of (by decide) (Nat.le_of_ble_eq_true rfl) (by simp [Value.category]) (rfl) ?_
    show fw_R _ _ 0 [some (.ref 0), some (.int (iI cut)), some (.int (iI t))] [] _ _ _
    refine fr_aload_n dX7_add_0 rfl ?_
    refine fr_get fX7_add_1 h.1 rfl ?_
    refine fr_iload_n dX7_add_4 rfl ?_
    refine fr_callV kX7_add_5 (hq) (by omega) hb.1 rfl rfl rfl ?_
    dsimp only [List.set, Option.toList, List.cons_append, List.nil_append]
    refine fr_if_eq (tgt := 23) dX7_add_8 (by decide) (by omega) (fun c => ?_) (fun c => ?_)
    · exact bad
    refine fr_iload_n dX7_add_11 rfl ?_
    refine fr_bipush dX7_add_12 (by decide) ?_
    refine fr_icmp_lt (tgt := 23) dX7_add_14 (by decide) (by omega) (by omega) (fun c2 => ?_) (fun c2 => ?_)
    · exact bad
    refine fr_iload_n dX7_add_17 rfl ?_
    refine fr_bipush dX7_add_18 (by decide) ?_
    refine fr_icmp_le (tgt := 25) dX7_add_20 (by decide) (by omega) (by omega) (fun c3 => ?_) (fun c3 => ?_)
    · exact absurd ⟨b2_n0.mp c, c2, c3⟩ hno
    · exact bad
  · intro hy hno
    have hcl := cut_lt hn.2 hy.1
    obtain ⟨cut, rfl⟩ := Int.eq_ofNat_of_zero_le (show 0 ≤ cut by omega)
    rw [Int.toNat_natCast] at hno
    have hbb := c_bearsCut (d := 12) (cut := cut) (t := t) (by omega) hb h60 (by omega) (by omega) false ⟨fun z => (by cases z), fun z => absurd z hno⟩
    rw [hy.1] at hq
    refine ⟨w, ?_, h, kp.rf⟩
    refine fw_K.of (by decide) (Nat.le_of_ble_eq_true rfl) (by simp [Value.category]) (rfl) ?_
    show fw_R _ _ 0 [some (.ref 0), some (.int (iI cut)), some (.int (iI t))] [] _ _ _
    refine fr_aload_n dX7_add_0 rfl ?_
    refine fr_get fX7_add_1 h.1 rfl ?_
    refine fr_iload_n dX7_add_4 rfl ?_
    refine fr_callV kX7_add_5 (hq) (by omega) hb.1 rfl rfl rfl ?_
    dsimp only [List.set, Option.toList, List.cons_append, List.nil_append]
    refine fr_if_eq (tgt := 23) dX7_add_8 (by decide) (by decide) (fun c => ?_) (fun c => ?_)
    · exact absurd c (by decide)
    refine fr_iload_n dX7_add_11 rfl ?_
    refine fr_bipush dX7_add_12 (by decide) ?_
    refine fr_icmp_lt (tgt := 23) dX7_add_14 (by decide) (by omega) (by omega) (fun c2 => ?_) (fun c2 => ?_)
    · omega
    refine fr_iload_n dX7_add_17 rfl ?_
    refine fr_bipush dX7_add_18 (by decide) ?_
    refine fr_icmp_le (tgt := 25) dX7_add_20 (by decide) (by omega) (by omega) (fun c3 => ?_) (fun c3 => ?_)
    rotate_left
    · omega
    refine fr_aload_n dX7_add_25 rfl ?_
    refine fr_get fX7_add_26 h.1 rfl ?_
    refine fr_iload_n dX7_add_29 rfl ?_
    refine fr_iload_n dX7_add_30 rfl ?_
    refine fr_callV kX7_add_31 (hbb) (by omega) hb.1 rfl rfl rfl ?_
    dsimp only [List.set, Option.toList, List.cons_append, List.nil_append]
    refine fr_if_ne (tgt := 40) dX7_add_34 (by decide) (by decide) (fun c4 => ?_) (fun c4 => ?_)
    · exact absurd rfl c4
    refine fr_bipush dX7_add_37 (by decide) ?_
    exact fr_iret dX7_add_39 rfl (rfl) (rfl)
  · intro hy hno
    have hcl := cut_lt hn.2 hy.1
    obtain ⟨cut, rfl⟩ := Int.eq_ofNat_of_zero_le (show 0 ≤ cut by omega)
    rw [Int.toNat_natCast] at hno ⊢
    have hbb := c_bearsCut (d := 12) (cut := cut) (t := t) (by omega) hb h60 (by omega) (by omega) true ⟨fun _ => hno, fun _ => rfl⟩
    obtain ⟨w', k1, k2, k3⟩ := c_putCut (d := 12) (cut := cut) (by omega) hb hT.2.1 (by omega) t
    rw [hy.1] at hq
    refine ⟨w', ?_, h.tab k2 (k3.mono (by intro k hk; omega)), k3.mono (by intro k hk; omega)⟩
    refine fw_K.of (by decide) (Nat.le_of_ble_eq_true rfl) (by simp [Value.category]) (k1.1) ?_
    show fw_R _ _ 0 [some (.ref 0), some (.int (iI cut)), some (.int (iI t))] [] _ _ _
    refine fr_aload_n dX7_add_0 rfl ?_
    refine fr_get fX7_add_1 h.1 rfl ?_
    refine fr_iload_n dX7_add_4 rfl ?_
    refine fr_callV kX7_add_5 (hq) (by omega) hb.1 rfl rfl rfl ?_
    dsimp only [List.set, Option.toList, List.cons_append, List.nil_append]
    refine fr_if_eq (tgt := 23) dX7_add_8 (by decide) (by decide) (fun c => ?_) (fun c => ?_)
    · exact absurd c (by decide)
    refine fr_iload_n dX7_add_11 rfl ?_
    refine fr_bipush dX7_add_12 (by decide) ?_
    refine fr_icmp_lt (tgt := 23) dX7_add_14 (by decide) (by omega) (by omega) (fun c2 => ?_) (fun c2 => ?_)
    · omega
    refine fr_iload_n dX7_add_17 rfl ?_
    refine fr_bipush dX7_add_18 (by decide) ?_
    refine fr_icmp_le (tgt := 25) dX7_add_20 (by decide) (by omega) (by omega) (fun c3 => ?_) (fun c3 => ?_)
    rotate_left
    · omega
    refine fr_aload_n dX7_add_25 rfl ?_
    refine fr_get fX7_add_26 h.1 rfl ?_
    refine fr_iload_n dX7_add_29 rfl ?_
    refine fr_iload_n dX7_add_30 rfl ?_
    refine fr_callV kX7_add_31 (hbb) (by omega) hb.1 rfl rfl rfl ?_
    dsimp only [List.set, Option.toList, List.cons_append, List.nil_append]
    refine fr_if_ne (tgt := 40) dX7_add_34 (by decide) (by decide) (fun c4 => ?_) (fun c4 => ?_)
    rotate_left
    · exact absurd c4 (by decide)
    refine fr_aload_n dX7_add_40 rfl ?_
    refine fr_get fX7_add_41 h.1 rfl ?_
    refine fr_iload_n dX7_add_44 rfl ?_
    refine fr_iload_n dX7_add_45 rfl ?_
    refine fr_callV kX7_add_46 (k1) (by omega) hb.1 rfl rfl rfl ?_
    dsimp only [List.set, Option.toList, List.cons_append, List.nil_append]
    refine fr_iconst dX7_add_49 ?_
    exact fr_iret dX7_add_50 rfl (rfl) (rfl)
theorem p_peel {cut : Int} (h : WC w n D num) (hT : okT n D) (hc : -2147483648 ≤ cut ∧ cut ≤ 2147483647) (z : Int) (hz : (∀ s, s < 2 ^ (n - 1) - 1 → cut = ((2 * (s + 1) : Nat) : Int) → z = plM n D (lawB n D) s) ∧ (isCut n cut = false → z = -1)) : PC mX7_peel [.int (iI cut)] w (.int (iI z)) n D num := by
  have hb := h.2.1
  have hn := hb.2.2
  have hq := c_hasCut (d := 1) (by omega) hb hc
  cases hi : isCut n cut with
  | false =>
    rw [hi] at hq
    rw [hz.2 hi]
    refine ⟨w, ?_, h, kp.rf⟩
    refine fw_K.of (by decide) (Nat.le_of_ble_eq_true rfl) (by simp [Value.category]) (rfl) ?_
    show fw_R _ _ 0 [some (.ref 0), some (.int (iI cut))] [] _ _ _
    refine fr_aload_n dX7_peel_0 rfl ?_
    refine fr_get fX7_peel_1 h.1 rfl ?_
    refine fr_iload_n dX7_peel_4 rfl ?_
    refine fr_callV kX7_peel_5 (hq) (by omega) hb.1 rfl rfl rfl ?_
    dsimp only [List.set, Option.toList, List.cons_append, List.nil_append]
    refine fr_if_ne (tgt := 13) dX7_peel_8 (by decide) (by decide) (fun c => ?_) (fun c => ?_)
    · exact absurd rfl c
    refine fr_iconst dX7_peel_11 ?_
    exact fr_iret dX7_peel_12 rfl (rfl) (rfl)
  | true =>
    rw [hi] at hq
    obtain ⟨s, e, hs⟩ := cut_s hn hi
    rw [hz.1 s hs e]
    obtain ⟨w', k1, k2, k3, ⟨f, k4, k5⟩, k6⟩ := c_takeAll (d := 12) (by omega) h.pw7 hT.1 hT.2.1 hT.2.2 (lawB n D) (lawB_iff n D)
    refine ⟨w', ?_, h.pe ⟨k2.1, k2.2.2⟩ k6, k6.mono (by intro k hk; omega)⟩
    have h0 := k6.g (by decide) h.1
    have hp2 : 2 ^ (n - 1) ≤ 32 := Nat.pow_le_pow_right (n := 2) (j := 5) (by decide) (by omega)
    subst e
    refine fw_K.of (by decide) (Nat.le_of_ble_eq_true rfl) (by simp [Value.category]) (k1.1) ?_
    show fw_R _ _ 0 [some (.ref 0), some (.int (iI ((2 * (s + 1) : Nat) : Int)))] [] _ _ _
    refine fr_aload_n dX7_peel_0 rfl ?_
    refine fr_get fX7_peel_1 h.1 rfl ?_
    refine fr_iload_n dX7_peel_4 rfl ?_
    refine fr_callV kX7_peel_5 (hq) (by omega) hb.1 rfl rfl rfl ?_
    dsimp only [List.set, Option.toList, List.cons_append, List.nil_append]
    refine fr_if_ne (tgt := 13) dX7_peel_8 (by decide) (by decide) (fun c => ?_) (fun c => ?_)
    rotate_left
    · exact absurd c (by decide)
    refine fr_aload_n dX7_peel_13 rfl ?_
    refine fr_get fX7_peel_14 h.1 rfl ?_
    refine fr_callV kX7_peel_17 (k1) (by omega) h.2.2.2.2.1.1 rfl rfl rfl ?_
    dsimp only [List.set, Option.toList, List.cons_append, List.nil_append]
    refine fr_aload_n dX7_peel_20 rfl ?_
    refine fr_get fX7_peel_21 h0 rfl ?_
    refine fr_get fX7_peel_24 k2.1 rfl ?_
    refine fr_iload_n dX7_peel_27 rfl ?_
    refine fr_iald (2 * (s + 1)) dX7_peel_28 k4 (by omega) (by omega) (by decide) ?_
    exact fr_iret dX7_peel_29 rfl (by rw [k5 s hs]) (rfl)
theorem p_left {i j : Int} (h : WC w n D num) (hT : okT n D) (hi : -2147483648 ≤ i ∧ i ≤ 2147483647) (hj : -2147483648 ≤ j ∧ j ≤ 2147483647) (z : Int) (hz : (isPr n i j → z = plE n D (lawB n D) (2 ^ (n - 1) - 1) i.toNat j.toNat) ∧ (¬ isPr n i j → z = -1)) : PC mX7_left [.int (iI i), .int (iI j)] w (.int (iI z)) n D num := by
  have ht := h.2.1
  have hp := c_hasPair (d := 1) (by omega) ht hi hj
  by_cases hc : isPr n i j
  · rw [decide_eq_true (p := (0 ≤ i ∧ i < (n : Int)) ∧ (0 ≤ j ∧ j < (n : Int))) hc] at hp
    rw [hz.1 hc]
    obtain ⟨⟨a1, a2⟩, b1, b2'⟩ := hc
    obtain ⟨i, rfl⟩ := Int.eq_ofNat_of_zero_le a1
    obtain ⟨j, rfl⟩ := Int.eq_ofNat_of_zero_le b1
    simp only [Int.toNat_natCast]
    obtain ⟨w', k1, k2, k3, -, k6⟩ := c_takeAll (d := 12) (by omega) h.pw7 hT.1 hT.2.1 hT.2.2 (lawB n D) (lawB_iff n D)
    refine ⟨w', ?_, h.pe ⟨k2.1, k2.2.2⟩ k6, k6.mono (by intro k hk; omega)⟩
    have h0 := k6.g (by decide) h.1
    have hbt := c_between (d := 0) k3 (i := i) (j := j) (by omega) (by omega)
    have k8 := k3.1
    generalize plE n D (lawB n D) (2 ^ (n - 1) - 1) i j = v at hbt ⊢
    refine fw_K.of (by decide) (Nat.le_of_ble_eq_true rfl) (by simp [Value.category]) (k1.1) ?_
    show fw_R _ _ 0 [some (.ref 0), some (.int (iI i)), some (.int (iI j))] [] _ _ _
    refine fr_aload_n dX7_left_0 rfl ?_
    refine fr_get fX7_left_1 h.1 rfl ?_
    refine fr_iload_n dX7_left_4 rfl ?_
    refine fr_iload_n dX7_left_5 rfl ?_
    refine fr_callV kX7_left_6 (hp) (by omega) ht.1 rfl rfl rfl ?_
    dsimp only [List.set, Option.toList, List.cons_append, List.nil_append]
    refine fr_if_ne (tgt := 14) dX7_left_9 (by decide) (by decide) (fun c => ?_) (fun c => ?_)
    rotate_left
    · exact absurd c (by decide)
    refine fr_aload_n dX7_left_14 rfl ?_
    refine fr_get fX7_left_15 h.1 rfl ?_
    refine fr_callV kX7_left_18 (k1) (by omega) h.2.2.2.2.1.1 rfl rfl rfl ?_
    dsimp only [List.set, Option.toList, List.cons_append, List.nil_append]
    refine fr_aload_n dX7_left_21 rfl ?_
    refine fr_get fX7_left_22 h0 rfl ?_
    refine fr_get fX7_left_25 k2.1 rfl ?_
    refine fr_iload_n dX7_left_28 rfl ?_
    refine fr_iload_n dX7_left_29 rfl ?_
    refine fr_callV kX7_left_30 (hbt) (by omega) k8 rfl rfl rfl ?_
    dsimp only [List.set, Option.toList, List.cons_append, List.nil_append]
    exact fr_iret dX7_left_33 rfl (rfl) (rfl)
  · rw [decide_eq_false (p := (0 ≤ i ∧ i < (n : Int)) ∧ (0 ≤ j ∧ j < (n : Int))) hc] at hp
    rw [hz.2 hc]
    refine ⟨w, ?_, h, kp.rf⟩
    refine fw_K.of (by decide) (Nat.le_of_ble_eq_true rfl) (by simp [Value.category]) (rfl) ?_
    show fw_R _ _ 0 [some (.ref 0), some (.int (iI i)), some (.int (iI j))] [] _ _ _
    refine fr_aload_n dX7_left_0 rfl ?_
    refine fr_get fX7_left_1 h.1 rfl ?_
    refine fr_iload_n dX7_left_4 rfl ?_
    refine fr_iload_n dX7_left_5 rfl ?_
    refine fr_callV kX7_left_6 (hp) (by omega) ht.1 rfl rfl rfl ?_
    dsimp only [List.set, Option.toList, List.cons_append, List.nil_append]
    refine fr_if_ne (tgt := 14) dX7_left_9 (by decide) (by decide) (fun c => ?_) (fun c => ?_)
    · exact absurd rfl c
    refine fr_iconst dX7_left_12 ?_
    exact fr_iret dX7_left_13 rfl (rfl) (rfl)
end PC2
