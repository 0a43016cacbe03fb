/-! the reference: flat, ways, bulk, add, peel, left -/
theorem c_mflat {d n : Nat} {D : Nat → Nat → Int} {A B : Int} {w : fw_S} (hd : 2 ≤ d) (h : mw w n D A B) (hD : okR n D 30) (b : Bool) (hb : b = true ↔ ∀ s, 1 ≤ s → s < 2 ^ (n - 1) → ¬ lI (dtS D s) < lI 0) : ∃ w', fw_K d mX8_flat [.ref 18] w (some (.int (iI (b2 b)))) w' ∧ mw w' n D A B ∧ kp w w' (fun k => k = 23 ∨ k = 24) := by
  have hn := h.1.2.2
  have hp := p2_half hn
  have hsh := iI_shl (m := 1) (n - 1) (by rw [Nat.one_mul]; omega) (by omega)
  rw [Nat.one_mul] at hsh
  rw [show ((n - 1 : Nat) : Int) = (n : Int) - 1 by omega] at hsh
  have lp := up_loop (fun s => 1 ≤ s → ∀ v : fw_S, mw v n D A B → (∀ s', 1 ≤ s' → s' < s → ¬ lI (dtS D s') < lI 0) → ∃ w', mw w' n D A B ∧ kp v w' (fun k => k = 23 ∨ k = 24) ∧ fw_R mX8_flat d 2 [some (.ref 18), some (.int (iI s))] [] v (some (.int (iI (b2 b)))) w') (2 ^ (n - 1)) ?_ ?_ 1 (by omega) (Nat.le_refl 1) w h (fun s' h1 h2 => by omega)
  · obtain ⟨w', k1, k2, k3⟩ := lp
    refine ⟨w', ?_, k1, k2⟩
    refine fw_K.of (by decide) (Nat.le_of_ble_eq_true rfl) (by simp [Value.category]) (k2.1) ?_
    show fw_R _ _ 0 [some (.ref 18), none] [] _ _ _
    refine fr_iconst dX8_flat_0 ?_
    refine fr_istore_n dX8_flat_1 rfl (by decide) rfl rfl ?_
    dsimp only [List.set, Option.toList, List.cons_append, List.nil_append]
    exact k3
  · intro hs1 v g1 hall
    have g11 := g1.1.1
    refine ⟨v, g1, kp.rf, ?_⟩
    refine fr_iload_n dX8_flat_2 rfl ?_
    refine fr_iconst dX8_flat_3 ?_
    refine fr_aload_n dX8_flat_4 rfl ?_
    refine fr_get fX8_flat_5 g11 rfl ?_
    refine fr_iconst dX8_flat_8 ?_
    refine fr_isub dX8_flat_9 ?_
    refine fr_ishl (((2 ^ (n - 1) : Nat) : Int)) dX8_flat_10 (hsh) ?_
    generalize 2 ^ (n - 1) = P at *
    refine fr_icmp_ge (tgt := 32) dX8_flat_11 (by decide) (by omega) (by omega) (fun c => ?_) (fun c => ?_)
    · have : b = true := hb.mpr (fun s h1 h2 => hall s h1 h2)
      subst this
      refine fr_iconst dX8_flat_32 ?_
      exact fr_iret dX8_flat_33 rfl (rfl) (rfl)
    · omega
  · intro s hs ih hs1 v g1 hall
    have g11 := g1.1.1
    obtain ⟨v1, k1, k2, k3⟩ := c_worth (d := d - 1) (by omega) g1 hD hs
    have hcr := cmpL_r (lI (dtS D s)) (lI 0)
    have hcl := cmpL_lt (lI (dtS D s)) (lI 0)
    by_cases hneg : lI (dtS D s) < lI 0
    · refine ⟨v1, k2, k3, ?_⟩
      refine fr_iload_n dX8_flat_2 rfl ?_
      refine fr_iconst dX8_flat_3 ?_
      refine fr_aload_n dX8_flat_4 rfl ?_
      refine fr_get fX8_flat_5 g11 rfl ?_
      refine fr_iconst dX8_flat_8 ?_
      refine fr_isub dX8_flat_9 ?_
      refine fr_ishl (((2 ^ (n - 1) : Nat) : Int)) dX8_flat_10 (hsh) ?_
      generalize 2 ^ (n - 1) = P at *
      refine fr_icmp_ge (tgt := 32) dX8_flat_11 (by decide) (by omega) (by omega) (fun c => ?_) (fun c => ?_)
      · omega
      refine fr_aload_n dX8_flat_14 rfl ?_
      refine fr_iload_n dX8_flat_15 rfl ?_
      refine fr_callV kX8_flat_16 (k1) (by omega) g11 rfl rfl rfl ?_
      dsimp only [List.set, Option.toList, List.cons_append, List.nil_append]
      refine fr_lconst (z := 0) dX8_flat_19 (by decide) ?_
      refine fr_lcmp dX8_flat_20 ?_
      rw [cmpL_eq]
      refine fr_if_ge (tgt := 26) dX8_flat_21 (by decide) (by omega) (fun c2 => ?_) (fun c2 => ?_)
      · exact absurd (hcl.mpr hneg) (by omega)
      · have : b = false := by
          cases hbb : b with
          | false => rfl
          | true => exact absurd hneg (hb.mp hbb s hs1 hs)
        subst this
        refine fr_iconst dX8_flat_24 ?_
        exact fr_iret dX8_flat_25 rfl (rfl) (rfl)
    · obtain ⟨w', j1, j2, j3⟩ := ih (by omega) v1 k2 (fun s' h1 h2 => by
        by_cases e : s' = s
        · subst e; exact hneg
        · exact hall s' h1 (by omega))
      refine ⟨w', j1, k3.trans j2, ?_⟩
      refine fr_iload_n dX8_flat_2 rfl ?_
      refine fr_iconst dX8_flat_3 ?_
      refine fr_aload_n dX8_flat_4 rfl ?_
      refine fr_get fX8_flat_5 g11 rfl ?_
      refine fr_iconst dX8_flat_8 ?_
      refine fr_isub dX8_flat_9 ?_
      refine fr_ishl (((2 ^ (n - 1) : Nat) : Int)) dX8_flat_10 (hsh) ?_
      generalize 2 ^ (n - 1) = P at *
      refine fr_icmp_ge (tgt := 32) dX8_flat_11 (by decide) (by omega) (by omega) (fun c => ?_) (fun c => ?_)
      · omega
      refine fr_aload_n dX8_flat_14 rfl ?_
      refine fr_iload_n dX8_flat_15 rfl ?_
      refine fr_callV kX8_flat_16 (k1) (by omega) g11 rfl rfl rfl ?_
      dsimp only [List.set, Option.toList, List.cons_append, List.nil_append]
      refine fr_lconst (z := 0) dX8_flat_19 (by decide) ?_
      refine fr_lcmp dX8_flat_20 ?_
      rw [cmpL_eq]
      refine fr_if_ge (tgt := 26) dX8_flat_21 (by decide) (by omega) (fun c2 => ?_) (fun c2 => ?_)
      · refine fr_iinc dX8_flat_26 rfl (by decide) rfl rfl ?_
        dsimp only [List.set, Option.toList, List.cons_append, List.nil_append]
        refine fr_goto (tgt := 2) dX8_flat_29 (by decide) ?_
        exact j3
      · exact absurd (hcl.mp c2) hneg
theorem c_mways {d n : Nat} {D : Nat → Nat → Int} {A B : Int} {w : fw_S} (hd : 2 ≤ d) (h : mw w n D A B) (hD : okR n D 30) : ∃ w', fw_K d mX8_ways [.ref 18] w (some (.int (iI (rkS D (2 ^ (n - 1) - 1))))) w' ∧ mw w' n D A B ∧ kp w w' (fun k => k = 23 ∨ k = 24) := by
  have hn := h.1.2.2
  have hp := p2_half hn
  have hsh := iI_shl (m := 1) (n - 1) (by rw [Nat.one_mul]; omega) (by omega)
  rw [Nat.one_mul] at hsh
  rw [show ((n - 1 : Nat) : Int) = (n : Int) - 1 by omega] at hsh
  have lp := lpE (M := mX8_ways) (d := d) (pcH := 4) (2 ^ (n - 1) - 1) (fun s _ => [some (.ref 18), some (.int (iI (rkS D s))), some (.int (iI ((s : Int) + 1)))]) (fun s (_ : Unit) v => mw v n D A B ∧ kp w v (fun k => k = 23 ∨ k = 24)) (by
    intro s _ v hs ⟨g1, g2⟩
    have g11 := g1.1.1
    have hrk := rkS_r D s
    have hpc := popc_r (s + 1)
    have hbc := c_mbits (d := 0) (v := s + 1) (w := v) (by omega)
    rw [show ((s + 1 : Nat) : Int) = (s : Int) + 1 by omega] at hbc
    by_cases hgt : rkS D s < popc (s + 1)
    · obtain ⟨v1, k1, k2, k3⟩ := c_worth (d := d - 1) (set := s + 1) (by omega) g1 hD (by omega)
      rw [show ((s + 1 : Nat) : Int) = (s : Int) + 1 by omega] at k1
      have hcr := cmpL_r (lI (dtS D (s + 1))) (lI 0)
      have hcl := cmpL_0 (lI (dtS D (s + 1))) (lI 0)
      have hbc2 := c_mbits (d := 0) (v := s + 1) (w := v1) (by omega)
      rw [show ((s + 1 : Nat) : Int) = (s : Int) + 1 by omega] at hbc2
      refine ⟨(), v1, ⟨k2, g2.trans k3⟩, ?_⟩
      intro r w' kk
      rw [rkS_s] at kk
      rw [show ((s + 1 : Nat) : Int) = (s : Int) + 1 by omega] at kk
      refine fr_iload_n dX8_ways_4 rfl ?_
      refine fr_iconst dX8_ways_5 ?_
      refine fr_aload_n dX8_ways_6 rfl ?_
      refine fr_get fX8_ways_7 g11 rfl ?_
      refine fr_iconst dX8_ways_10 ?_
      refine fr_isub dX8_ways_11 ?_
      refine fr_ishl (((2 ^ (n - 1) : Nat) : Int)) dX8_ways_12 (hsh) ?_
      generalize 2 ^ (n - 1) = P at *
      refine fr_icmp_ge (tgt := 49) dX8_ways_13 (by decide) (by omega) (by omega) (fun c => ?_) (fun c => ?_)
      · omega
      refine fr_iload_n dX8_ways_16 rfl ?_
      refine fr_callS kX8_ways_17 (hbc) (by omega) rfl rfl rfl ?_
      dsimp only [List.set, Option.toList, List.cons_append, List.nil_append]
      refine fr_iload_n dX8_ways_20 rfl ?_
      refine fr_icmp_le (tgt := 41) dX8_ways_21 (by decide) (by omega) (by omega) (fun c1 => ?_) (fun c1 => ?_)
      · omega
      refine fr_aload_n dX8_ways_24 rfl ?_
      refine fr_iload_n dX8_ways_25 rfl ?_
      refine fr_callV kX8_ways_26 (k1) (by omega) g11 rfl rfl rfl ?_
      dsimp only [List.set, Option.toList, List.cons_append, List.nil_append]
      refine fr_lconst (z := 0) dX8_ways_29 (by decide) ?_
      refine fr_lcmp dX8_ways_30 ?_
      rw [cmpL_eq]
      refine fr_if_eq (tgt := 41) dX8_ways_31 (by decide) (by omega) (fun c2 => ?_) (fun c2 => ?_)
      · rw [if_neg (fun z => z (hcl.mp c2))] at kk
        refine fr_iload_n dX8_ways_41 rfl ?_
        refine fr_istore_n dX8_ways_42 rfl (by decide) rfl rfl ?_
        dsimp only [List.set, Option.toList, List.cons_append, List.nil_append]
        refine fr_iinc dX8_ways_43 rfl (by decide) rfl rfl ?_
        dsimp only [List.set, Option.toList, List.cons_append, List.nil_append]
        refine fr_goto (tgt := 4) dX8_ways_46 (by decide) ?_
        exact kk
      · rw [if_pos (fun z => c2 (hcl.mpr z)), Nat.max_eq_right (by omega)] at kk
        refine fr_iload_n dX8_ways_34 rfl ?_
        refine fr_callS kX8_ways_35 (hbc2) (by omega) rfl rfl rfl ?_
        dsimp only [List.set, Option.toList, List.cons_append, List.nil_append]
        refine fr_goto (tgt := 42) dX8_ways_38 (by decide) ?_
        refine fr_istore_n dX8_ways_42 rfl (by decide) rfl rfl ?_
        dsimp only [List.set, Option.toList, List.cons_append, List.nil_append]
        refine fr_iinc dX8_ways_43 rfl (by decide) rfl rfl ?_
        dsimp only [List.set, Option.toList, List.cons_append, List.nil_append]
        refine fr_goto (tgt := 4) dX8_ways_46 (by decide) ?_
        exact kk
    · refine ⟨(), v, ⟨g1, g2⟩, ?_⟩
      intro r w' kk
      have e1 : rkS D (s + 1) = rkS D s := by
        rw [rkS_s]; split
        · exact Nat.max_eq_left (by omega)
        · rfl
      rw [e1, show ((s + 1 : Nat) : Int) = (s : Int) + 1 by omega] at kk
      refine fr_iload_n dX8_ways_4 rfl ?_
      refine fr_iconst dX8_ways_5 ?_
      refine fr_aload_n dX8_ways_6 rfl ?_
      refine fr_get fX8_ways_7 g11 rfl ?_
      refine fr_iconst dX8_ways_10 ?_
      refine fr_isub dX8_ways_11 ?_
      refine fr_ishl (((2 ^ (n - 1) : Nat) : Int)) dX8_ways_12 (hsh) ?_
      generalize 2 ^ (n - 1) = P at *
      refine fr_icmp_ge (tgt := 49) dX8_ways_13 (by decide) (by omega) (by omega) (fun c => ?_) (fun c => ?_)
      · omega
      refine fr_iload_n dX8_ways_16 rfl ?_
      refine fr_callS kX8_ways_17 (hbc) (by omega) rfl rfl rfl ?_
      dsimp only [List.set, Option.toList, List.cons_append, List.nil_append]
      refine fr_iload_n dX8_ways_20 rfl ?_
      refine fr_icmp_le (tgt := 41) dX8_ways_21 (by decide) (by omega) (by omega) (fun c1 => ?_) (fun c1 => ?_)
      · refine fr_iload_n dX8_ways_41 rfl ?_
        refine fr_istore_n dX8_ways_42 rfl (by decide) rfl rfl ?_
        dsimp only [List.set, Option.toList, List.cons_append, List.nil_append]
        refine fr_iinc dX8_ways_43 rfl (by decide) rfl rfl ?_
        dsimp only [List.set, Option.toList, List.cons_append, List.nil_append]
        refine fr_goto (tgt := 4) dX8_ways_46 (by decide) ?_
        exact kk
      · omega)
  obtain ⟨_, wE, ⟨e1, e2⟩, hr⟩ := lp 0 () w (Nat.zero_le _) ⟨h, kp.rf⟩
  refine ⟨wE, ?_, e1, e2⟩
  have e11 := e1.1.1
  have hrk := rkS_r D (2 ^ (n - 1) - 1)
  refine fw_K.of (by decide) (Nat.le_of_ble_eq_true rfl) (by simp [Value.category]) (e2.1) ?_
  show fw_R _ _ 0 [some (.ref 18), none, none] [] _ _ _
  refine fr_iconst dX8_ways_0 ?_
  refine fr_istore_n dX8_ways_1 rfl (by decide) rfl rfl ?_
  dsimp only [List.set, Option.toList, List.cons_append, List.nil_append]
  refine fr_iconst dX8_ways_2 ?_
  refine fr_istore_n dX8_ways_3 rfl (by decide) rfl rfl ?_
  dsimp only [List.set, Option.toList, List.cons_append, List.nil_append]
  refine hr _ _ ?_
  refine fr_iload_n dX8_ways_4 rfl ?_
  refine fr_iconst dX8_ways_5 ?_
  refine fr_aload_n dX8_ways_6 rfl ?_
  refine fr_get fX8_ways_7 e11 rfl ?_
  refine fr_iconst dX8_ways_10 ?_
  refine fr_isub dX8_ways_11 ?_
  refine fr_ishl (((2 ^ (n - 1) : Nat) : Int)) dX8_ways_12 (hsh) ?_
  generalize 2 ^ (n - 1) = P at *
  refine fr_icmp_ge (tgt := 49) dX8_ways_13 (by decide) (by omega) (by omega) (fun c => ?_) (fun c => ?_)
  · refine fr_iload_n dX8_ways_49 rfl ?_
    exact fr_iret dX8_ways_50 rfl (rfl) (rfl)
  · omega
def bulkZ (n : Nat) (D : Nat → Nat → Int) (k : Int) : Int := if 2 ≤ k ∧ k ≤ n then dtS D (2 ^ (k.toNat - 1) - 1) else -2000000000000000000
set_option maxRecDepth 20000 in
theorem c_mbulk {d n : Nat} {D : Nat → Nat → Int} {A B k : Int} {w : fw_S} (hd : 2 ≤ d) (h : mw w n D A B) (hD : okR n D 30) (hk : -2147483648 ≤ k ∧ k ≤ 2147483647) : ∃ w', fw_K d mX8_bulk [.ref 18, .int (iI k)] w (some (.long (lI (bulkZ n D k)))) w' ∧ mw w' n D A B ∧ kp w w' (fun k => k = 23 ∨ k = 24) := by
  have h1 := h.1.1
  have hn := h.1.2.2
  have hin := c_in (d := 0) (w := w) (v := k) (lo := 2) (hi := (n : Int)) hk (by omega) (by omega)
  by_cases hc : 2 ≤ k ∧ k ≤ n
  · rw [show decide (2 ≤ k ∧ k ≤ (n : Int)) = true by simp only [decide_eq_true_eq]; exact hc] at hin
    unfold bulkZ
    rw [if_pos hc]
    obtain ⟨q, rfl⟩ := Int.eq_ofNat_of_zero_le (show 0 ≤ k by omega)
    rw [Int.toNat_natCast]
    have hp1 : 1 ≤ 2 ^ (q - 1) := Nat.one_le_two_pow
    have hpq : 2 ^ (q - 1) ≤ 2 ^ (n - 1) := Nat.pow_le_pow_right (by decide) (by omega)
    have hp := p2_half hn
    have hsh := iI_shl (m := 1) (q - 1) (by rw [Nat.one_mul]; omega) (by omega)
    rw [Nat.one_mul, show ((q - 1 : Nat) : Int) = (q : Int) - 1 by omega] at hsh
    obtain ⟨w1, k1, k2, k3⟩ := c_worth (d := d - 1) (set := 2 ^ (q - 1) - 1) (by omega) h hD (by omega)
    refine ⟨w1, ?_, k2, k3⟩
    rw [show ((2 ^ (q - 1) - 1 : Nat) : Int) = ((2 ^ (q - 1) : Nat) : Int) - 1 by omega] at k1
    refine fw_K.of (by decide) (Nat.le_of_ble_eq_true rfl) (by simp [Value.category]) (k3.1) ?_
    show fw_R _ _ 0 [some (.ref 18), some (.int (iI q))] [] _ _ _
    refine fr_iload_n dX8_bulk_0 rfl ?_
    refine fr_iconst dX8_bulk_1 ?_
    refine fr_aload_n dX8_bulk_2 rfl ?_
    refine fr_get fX8_bulk_3 h1 rfl ?_
    refine fr_callS kX8_bulk_6 (hin) (by omega) rfl rfl rfl ?_
    dsimp only [List.set, Option.toList, List.cons_append, List.nil_append]
    refine fr_if_eq (tgt := 26) dX8_bulk_9 (by decide) (by decide) (fun c => ?_) (fun c => ?_)
    · exact absurd c (by decide)
    · refine fr_aload_n dX8_bulk_12 rfl ?_
      refine fr_iconst dX8_bulk_13 ?_
      refine fr_iload_n dX8_bulk_14 rfl ?_
      refine fr_iconst dX8_bulk_15 ?_
      refine fr_isub dX8_bulk_16 ?_
      refine fr_ishl (((2 ^ (q - 1) : Nat) : Int)) dX8_bulk_17 (hsh) ?_
      refine fr_iconst dX8_bulk_18 ?_
      refine fr_isub dX8_bulk_19 ?_
      refine fr_callV kX8_bulk_20 (k1) (by omega) h1 rfl rfl rfl ?_
      dsimp only [List.set, Option.toList, List.cons_append, List.nil_append]
      refine fr_goto (tgt := 29) dX8_bulk_23 (by decide) ?_
      exact fr_lret dX8_bulk_29 rfl (rfl) (rfl)
  · rw [show decide (2 ≤ k ∧ k ≤ (n : Int)) = false by simp only [decide_eq_false_iff_not]; exact hc] at hin
    unfold bulkZ
    rw [if_neg hc]
    refine ⟨w, ?_, h, kp.rf⟩
    refine fw_K.of (by decide) (Nat.le_of_ble_eq_true rfl) (by simp [Value.category]) (rfl) ?_
    show fw_R _ _ 0 [some (.ref 18), some (.int (iI k))] [] _ _ _
    refine fr_iload_n dX8_bulk_0 rfl ?_
    refine fr_iconst dX8_bulk_1 ?_
    refine fr_aload_n dX8_bulk_2 rfl ?_
    refine fr_get fX8_bulk_3 h1 rfl ?_
    refine fr_callS kX8_bulk_6 (hin) (by omega) rfl rfl rfl ?_
    dsimp only [List.set, Option.toList, List.cons_append, List.nil_append]
    refine fr_if_eq (tgt := 26) dX8_bulk_9 (by decide) (by decide) (fun c => ?_) (fun c => ?_)
    · refine fr_ldc2 (v := lI (-2000000000000000000)) dX8_bulk_26 (okm (i := 608) rfl rfl) ?_
      exact fr_lret dX8_bulk_29 rfl (rfl) (rfl)
    · exact absurd rfl c
theorem bearsP_all {n cut : Nat} {D : Nat → Nat → Int} {t : Int} (hs : sym n D) : bearsP n D cut t ↔ ∀ i, i < n → ∀ j, j < n → pt cut i j = true → 0 ≤ D i j + t ∧ D i j + t ≤ 30 := by
  constructor
  · intro h i hi j hj hp
    rcases Nat.lt_trichotomy i j with q | q | q
    · exact h i hi j hj q hp
    · subst q; rw [pt_self] at hp; cases hp
    · rw [hs i j hi hj]; exact h j hj i hi q (by rw [pt_symm]; exact hp)
  · intro h i hi j hj _ hp
    exact h i hi j hj hp
theorem c_madd {d n : Nat} {D : Nat → Nat → Int} {A B cut t : Int} {w : fw_S} (hd : 2 ≤ d) (h : mA w n D A B) (hD : okR n D 30) (hs : sym n D) (hc : -2147483648 ≤ cut ∧ cut ≤ 2147483647) (ht : -2147483648 ≤ t ∧ t ≤ 2147483647) :
    (¬ (isCut n cut = true ∧ -30 ≤ t ∧ t ≤ 30) → fw_K d mX8_add [.ref 18, .int (iI cut), .int (iI t)] w (some (.int (iI (-1)))) w) ∧
    ((isCut n cut = true ∧ -30 ≤ t ∧ t ≤ 30) → ¬ bearsP n D cut.toNat t → fw_K d mX8_add [.ref 18, .int (iI cut), .int (iI t)] w (some (.int (iI (-2)))) w) ∧
    ((isCut n cut = true ∧ -30 ≤ t ∧ t ≤ 30) → bearsP n D cut.toNat t → ∃ w', fw_K d mX8_add [.ref 18, .int (iI cut), .int (iI t)] w (some (.int (iI 0))) w' ∧ mA w' n (cutD D cut.toNat t) A B ∧ kp w w' (fun k => k = 19)) := by
  have h1 := h.1
  have hn := h.2.2
  have hic := c_misCut (d := 1) (by omega) h hc
  have hin := c_in (d := 0) (w := w) (v := t) (lo := -30) (hi := 30) ht (by omega) (by omega)
  have r1 := b2_r (isCut n cut)
  have r2 := b2_r (decide (-30 ≤ t ∧ t ≤ 30))
  have gate : ∀ (r : Option Value) (w' : fw_S), w'.1 = w.1 → ((isCut n cut = true ∧ -30 ≤ t ∧ t ≤ 30) → fw_R mX8_add d 23 [some (.ref 18), some (.int (iI cut)), some (.int (iI t)), some (.int (iI 0)), none] [] w r w') → (¬ (isCut n cut = true ∧ -30 ≤ t ∧ t ≤ 30) → r = some (.int (iI (-1))) ∧ w' = w) → fw_K d mX8_add [.ref 18, .int (iI cut), .int (iI t)] w r w' := by
    intro r w' hN hyes hno
    have bad : ¬ (isCut n cut = true ∧ -30 ≤ t ∧ t ≤ 30) → fw_R mX8_add d 19 [some (.ref 18), some (.int (iI cut)), some (.int (iI t)), none, none] [] w r w' := by
      intro z
      obtain ⟨rfl, rfl⟩ := hno z
      refine fr_iconst dX8_add_19 ?_
      exact fr_iret dX8_add_20 rfl (rfl) (rfl)
    refine fw_K.of (by decide) (Nat.le_of_ble_eq_true rfl) (by simp [Value.category]) (hN) ?_
    show fw_R _ _ 0 [some (.ref 18), some (.int (iI cut)), some (.int (iI t)), none, none] [] _ _ _
    refine fr_aload_n dX8_add_0 rfl ?_
    refine fr_iload_n dX8_add_1 rfl ?_
    refine fr_callV kX8_add_2 (hic) (by omega) h1 rfl rfl rfl ?_
    dsimp only [List.set, Option.toList, List.cons_append, List.nil_append]
    refine fr_if_eq (tgt := 19) dX8_add_5 (by decide) (by omega) (fun c1 => ?_) (fun c1 => ?_)
    · exact bad (fun z => by rw [z.1] at c1; exact absurd c1 (by decide))
    · refine fr_iload_n dX8_add_8 rfl ?_
      refine fr_bipush dX8_add_9 (by decide) ?_
      refine fr_bipush dX8_add_11 (by decide) ?_
      refine fr_callS kX8_add_13 (hin) (by omega) rfl rfl rfl ?_
      dsimp only [List.set, Option.toList, List.cons_append, List.nil_append]
      refine fr_if_ne (tgt := 21) dX8_add_16 (by decide) (by omega) (fun c2 => ?_) (fun c2 => ?_)
      · have c3 := b2_n0.mp c2
        simp only [decide_eq_true_eq] at c3
        refine fr_iconst dX8_add_21 ?_
        refine fr_istore_n dX8_add_22 rfl (by decide) rfl rfl ?_
        dsimp only [List.set, Option.toList, List.cons_append, List.nil_append]
        exact hyes ⟨b2_n0.mp c1, c3⟩
      · have c3 := b2_0.mp c2
        simp only [decide_eq_false_iff_not] at c3
        exact bad (fun z => c3 z.2)
  refine ⟨fun z => gate _ w rfl (fun y => absurd y z) (fun _ => ⟨rfl, rfl⟩), fun z hb => gate _ w rfl (fun _ => ?_) (fun y => absurd z y), fun z hb => ?_⟩
  · -- a distance that does not bear it
    obtain ⟨hic', ht'⟩ := z
    unfold isCut at hic'
    simp only [decide_eq_true_eq] at hic'
    have hp := p2_le hn.2
    obtain ⟨c, rfl⟩ := Int.eq_ofNat_of_zero_le (show 0 ≤ cut by omega)
    rw [Int.toNat_natCast, bearsP_all hs] at hb
    have hc64 : c < 64 := by omega
    have outer := up_loop (fun i => (∀ i' j', i' < i → j' < n → pt c i' j' = true → 0 ≤ D i' j' + t ∧ D i' j' + t ≤ 30) → fw_R mX8_add d 23 [some (.ref 18), some (.int (iI c)), some (.int (iI t)), some (.int (iI i)), none] [] w (some (.int (iI (-2)))) w) n (fun hall => absurd (fun i hi j hj hp => hall i j hi hj hp) hb) (by
      intro i hi ih hall
      have inner := up_loop (fun j => (∀ j', j' < j → pt c i j' = true → 0 ≤ D i j' + t ∧ D i j' + t ≤ 30) → fw_R mX8_add d 34 [some (.ref 18), some (.int (iI c)), some (.int (iI t)), some (.int (iI i)), some (.int (iI j))] [] w (some (.int (iI (-2)))) w) n (by
        intro hall2
        refine fr_iload dX8_add_34 rfl ?_
        refine fr_aload_n dX8_add_36 rfl ?_
        refine fr_get fX8_add_37 h1 rfl ?_
        refine fr_icmp_ge (tgt := 80) dX8_add_40 (by decide) (by omega) (by omega) (fun c1 => ?_) (fun c1 => ?_)
        · refine fr_iinc dX8_add_80 rfl (by decide) rfl rfl ?_
          dsimp only [List.set, Option.toList, List.cons_append, List.nil_append]
          refine fr_goto (tgt := 23) dX8_add_83 (by decide) ?_
          refine (ih (fun i' j' hi' hj' hp => ?_)).wk (by simp [fw_le])
          by_cases e : i' = i
          · subst e; exact hall2 j' hj' hp
          · exact hall i' j' (by omega) hj' hp
        · omega) (by
        intro j hj ihj hall2
        have dij := hD i j hi hj
        have rp := b2_r (pt c i j)
        have hin2 := c_in (d := 0) (w := w) (v := D i j + t) (lo := 0) (hi := 30) (by omega) (by omega) (by omega)
        have rq := b2_r (decide (0 ≤ D i j + t ∧ D i j + t ≤ 30))
        have stay : (pt c i j = true → 0 ≤ D i j + t ∧ D i j + t ≤ 30) → fw_R mX8_add d 74 [some (.ref 18), some (.int (iI c)), some (.int (iI t)), some (.int (iI i)), some (.int (iI j))] [] w (some (.int (iI (-2)))) w := by
          intro hok
          refine fr_iinc dX8_add_74 rfl (by decide) rfl rfl ?_
          dsimp only [List.set, Option.toList, List.cons_append, List.nil_append]
          refine fr_goto (tgt := 34) dX8_add_77 (by decide) ?_
          refine ihj (fun j' hj' hp => ?_)
          by_cases e : j' = j
          · subst e; exact hok hp
          · exact hall2 j' (by omega) hp
        refine fr_iload dX8_add_34 rfl ?_
        refine fr_aload_n dX8_add_36 rfl ?_
        refine fr_get fX8_add_37 h1 rfl ?_
        refine fr_icmp_ge (tgt := 80) dX8_add_40 (by decide) (by omega) (by omega) (fun c1 => ?_) (fun c1 => ?_)
        · omega
        refine fr_iload_n dX8_add_43 rfl ?_
        refine fr_iload_n dX8_add_44 rfl ?_
        refine fr_iload dX8_add_45 rfl ?_
        refine fr_callS kX8_add_47 (c_mparts (d := 0) (z := c) (i := i) (j := j) (by omega) (by omega) (by omega)) (by omega) rfl rfl rfl ?_
        dsimp only [List.set, Option.toList, List.cons_append, List.nil_append]
        refine fr_if_eq (tgt := 74) dX8_add_50 (by decide) (by omega) (fun c2 => ?_) (fun c2 => ?_)
        · exact stay (fun y => by rw [y] at c2; exact absurd c2 (by decide))
        · refine fr_aload_n dX8_add_53 rfl ?_
          refine fr_iload_n dX8_add_54 rfl ?_
          refine fr_iload dX8_add_55 rfl ?_
          refine fr_callV kX8_add_57 (c_mdist (d := 0) h hi hj) (by omega) h1 rfl rfl rfl ?_
          dsimp only [List.set, Option.toList, List.cons_append, List.nil_append]
          refine fr_iload_n dX8_add_60 rfl ?_
          refine fr_iadd dX8_add_61 ?_
          refine fr_iconst dX8_add_62 ?_
          refine fr_bipush dX8_add_63 (by decide) ?_
          refine fr_callS kX8_add_65 (hin2) (by omega) rfl rfl rfl ?_
          dsimp only [List.set, Option.toList, List.cons_append, List.nil_append]
          refine fr_if_ne (tgt := 74) dX8_add_68 (by decide) (by omega) (fun c3 => ?_) (fun c3 => ?_)
          · have c4 := b2_n0.mp c3
            simp only [decide_eq_true_eq] at c4
            exact stay (fun _ => c4)
          · refine fr_bipush dX8_add_71 (by decide) ?_
            exact fr_iret dX8_add_73 rfl (rfl) (rfl))
      refine fr_iload_n dX8_add_23 rfl ?_
      refine fr_aload_n dX8_add_24 rfl ?_
      refine fr_get fX8_add_25 h1 rfl ?_
      refine fr_icmp_ge (tgt := 86) dX8_add_28 (by decide) (by omega) (by omega) (fun c1 => ?_) (fun c1 => ?_)
      · omega
      refine fr_iconst dX8_add_31 ?_
      refine fr_istore dX8_add_32 (by decide) rfl rfl ?_
      dsimp only [List.set, Option.toList, List.cons_append, List.nil_append]
      exact inner 0 (Nat.zero_le _) (fun j' hj' => absurd hj' (Nat.not_lt_zero j')))
    exact outer 0 (Nat.zero_le _) (fun i' j' hi' => absurd hi' (Nat.not_lt_zero i'))
  · obtain ⟨hic', ht'⟩ := z
    unfold isCut at hic'
    simp only [decide_eq_true_eq] at hic'
    have hp := p2_le hn.2
    obtain ⟨c, rfl⟩ := Int.eq_ofNat_of_zero_le (show 0 ≤ cut by omega)
    rw [Int.toNat_natCast] at hb
    have hb' := (bearsP_all hs).mp hb
    have hc64 : c < 64 := by omega
    rw [Int.toNat_natCast]
    have put := lpE (M := mX8_add) (d := d) (pcH := 88) n (fun i _ => [some (.ref 18), some (.int (iI c)), some (.int (iI t)), some (.int (iI i)), none]) (fun i (_ : Unit) v => mA v n (fun x y => if pt c x y = true ∧ x < i then D x y + t else D x y) A B ∧ kp w v (fun k => k = 19)) (by
      intro i _ v hi ⟨g1, g2⟩
      have inner := lpE (M := mX8_add) (d := d) (pcH := 99) n (fun j _ => [some (.ref 18), some (.int (iI c)), some (.int (iI t)), some (.int (iI i)), some (.int (iI j))]) (fun j (_ : Unit) v => mA v n (fun x y => if pt c x y = true ∧ (x < i ∨ x = i ∧ y < j) then D x y + t else D x y) A B ∧ kp w v (fun k => k = 19)) (by
        intro j _ v hj ⟨g1, g2⟩
        obtain ⟨g11, ⟨f, g12, g13⟩, g14⟩ := g1
        have rp := b2_r (pt c i j)
        have hf := g13 i j hi hj
        simp only [] at hf
        rw [if_neg (by omega)] at hf
        have key : ∀ q : Int, q = (if pt c i j = true then t else 0) → mA (fw_up v 19 (.inr (36, .inl (fw_u f (6 * i + j) (D i j + q))))) n (fun x y => if pt c x y = true ∧ (x < i ∨ x = i ∧ y < j + 1) then D x y + t else D x y) A B := by
          intro q hq
          refine ⟨g11.ne _ (by decide), ⟨_, g12.up _, fun x y hx hy => ?_⟩, g14⟩
          by_cases e : 6 * x + y = 6 * i + j
          · have e1 : x = i ∧ y = j := by omega
            rw [e, fw_u_self, e1.1, e1.2, hq]
            show _ = if pt c i j = true ∧ (i < i ∨ i = i ∧ j < j + 1) then D i j + t else D i j
            by_cases hz : pt c i j = true
            · rw [if_pos hz, if_pos ⟨hz, by omega⟩]
            · rw [if_neg hz, if_neg (fun y => hz y.1), Int.add_zero]
          · rw [fw_u_ne _ _ e, g13 x y hx hy]
            show (if pt c x y = true ∧ (x < i ∨ x = i ∧ y < j) then D x y + t else D x y) = if pt c x y = true ∧ (x < i ∨ x = i ∧ y < j + 1) then D x y + t else D x y
            by_cases hz : pt c x y = true ∧ (x < i ∨ x = i ∧ y < j)
            · rw [if_pos hz, if_pos ⟨hz.1, by omega⟩]
            · rw [if_neg hz, if_neg (fun y' => hz ⟨y'.1, by omega⟩)]
        refine ⟨(), fw_up v 19 (.inr (36, .inl (fw_u f (6 * i + j) (D i j + (if pt c i j = true then t else 0))))), ⟨key _ rfl, g2.trans (kp.up _ _ _)⟩, ?_⟩
        intro r w' kk
        refine fr_iload dX8_add_99 rfl ?_
        refine fr_aload_n dX8_add_101 rfl ?_
        refine fr_get fX8_add_102 g11 rfl ?_
        refine fr_icmp_ge (tgt := 144) dX8_add_105 (by decide) (by omega) (by omega) (fun c1 => ?_) (fun c1 => ?_)
        · omega
        refine fr_aload_n dX8_add_108 rfl ?_
        refine fr_get fX8_add_109 g11 rfl ?_
        refine fr_bipush dX8_add_112 (by decide) ?_
        refine fr_iload_n dX8_add_114 rfl ?_
        refine fr_imul dX8_add_115 ?_
        refine fr_iload dX8_add_116 rfl ?_
        refine fr_iadd dX8_add_118 ?_
        refine fr_dup2 dX8_add_119 rfl rfl ?_
        refine fr_iald (6 * i + j) dX8_add_120 g12 (by omega) (by omega) (by decide) ?_
        refine fr_iload_n dX8_add_121 rfl ?_
        refine fr_iload_n dX8_add_122 rfl ?_
        refine fr_iload dX8_add_123 rfl ?_
        refine fr_callS kX8_add_125 (c_mparts (d := 0) (z := c) (i := i) (j := j) (by omega) (by omega) (by omega)) (by omega) rfl rfl rfl ?_
        dsimp only [List.set, Option.toList, List.cons_append, List.nil_append]
        rw [hf]
        refine fr_if_eq (tgt := 135) dX8_add_128 (by decide) (by omega) (fun c2 => ?_) (fun c2 => ?_)
        · rw [if_neg (fun y => by rw [y] at c2; exact absurd c2 (by decide))] at kk
          refine fr_iconst dX8_add_135 ?_
          refine fr_iadd dX8_add_136 ?_
          refine fr_iast (6 * i + j) dX8_add_137 g12 (by omega) (by omega) (by decide) ?_
          refine fr_iinc dX8_add_138 rfl (by decide) rfl rfl ?_
          dsimp only [List.set, Option.toList, List.cons_append, List.nil_append]
          refine fr_goto (tgt := 99) dX8_add_141 (by decide) ?_
          exact kk
        · rw [if_pos (b2_n0.mp c2)] at kk
          refine fr_iload_n dX8_add_131 rfl ?_
          refine fr_goto (tgt := 136) dX8_add_132 (by decide) ?_
          refine fr_iadd dX8_add_136 ?_
          refine fr_iast (6 * i + j) dX8_add_137 g12 (by omega) (by omega) (by decide) ?_
          refine fr_iinc dX8_add_138 rfl (by decide) rfl rfl ?_
          dsimp only [List.set, Option.toList, List.cons_append, List.nil_append]
          refine fr_goto (tgt := 99) dX8_add_141 (by decide) ?_
          exact kk)
      obtain ⟨_, wE, ⟨e1, e2⟩, hr⟩ := inner 0 () v (Nat.zero_le _) ⟨g1.cg (fun x y hx hy => by
        by_cases hz : pt c x y = true ∧ x < i
        · rw [if_pos hz, if_pos ⟨hz.1, by omega⟩]
        · rw [if_neg hz, if_neg (fun y' => hz ⟨y'.1, by omega⟩)]), g2⟩
      refine ⟨(), wE, ⟨e1.cg (fun x y hx hy => by
        by_cases hz : pt c x y = true ∧ x < i + 1
        · rw [if_pos hz, if_pos ⟨hz.1, by omega⟩]
        · rw [if_neg hz, if_neg (fun y' => hz ⟨y'.1, by omega⟩)]), e2⟩, ?_⟩
      intro r w' kk
      have g11 := g1.1
      have e11 := e1.1
      refine fr_iload_n dX8_add_88 rfl ?_
      refine fr_aload_n dX8_add_89 rfl ?_
      refine fr_get fX8_add_90 g11 rfl ?_
      refine fr_icmp_ge (tgt := 150) dX8_add_93 (by decide) (by omega) (by omega) (fun c1 => ?_) (fun c1 => ?_)
      · omega
      refine fr_iconst dX8_add_96 ?_
      refine fr_istore dX8_add_97 (by decide) rfl rfl ?_
      dsimp only [List.set, Option.toList, List.cons_append, List.nil_append]
      refine hr r w' ?_
      refine fr_iload dX8_add_99 rfl ?_
      refine fr_aload_n dX8_add_101 rfl ?_
      refine fr_get fX8_add_102 e11 rfl ?_
      refine fr_icmp_ge (tgt := 144) dX8_add_105 (by decide) (by omega) (by omega) (fun c1 => ?_) (fun c1 => ?_)
      · refine fr_iinc dX8_add_144 rfl (by decide) rfl rfl ?_
        dsimp only [List.set, Option.toList, List.cons_append, List.nil_append]
        refine fr_goto (tgt := 88) dX8_add_147 (by decide) ?_
        exact kk.wk (by simp [fw_le])
      · omega)
    obtain ⟨_, wE, ⟨e1, e2⟩, hr⟩ := put 0 () w (Nat.zero_le _) ⟨h.cg (fun x y hx hy => by rw [if_neg (fun y' => absurd y'.2 (Nat.not_lt_zero x))]), kp.rf⟩
    refine ⟨wE, gate _ wE e2.1 (fun _ => ?_) (fun y => absurd ⟨by unfold isCut; simp only [decide_eq_true_eq]; exact hic', ht'⟩ y), e1.cg (fun x y hx hy => by
      unfold cutD
      by_cases hz : pt c x y = true
      · rw [if_pos ⟨hz, hx⟩, if_pos hz]
      · rw [if_neg (fun y' => hz y'.1), if_neg hz]), e2⟩
    have e11 := e1.1
    have fin : fw_R mX8_add d 86 [some (.ref 18), some (.int (iI c)), some (.int (iI t)), none, none] [] w (some (.int (iI 0))) wE := by
      refine fr_iconst dX8_add_86 ?_
      refine fr_istore_n dX8_add_87 rfl (by decide) rfl rfl ?_
      dsimp only [List.set, Option.toList, List.cons_append, List.nil_append]
      refine hr _ _ ?_
      refine fr_iload_n dX8_add_88 rfl ?_
      refine fr_aload_n dX8_add_89 rfl ?_
      refine fr_get fX8_add_90 e11 rfl ?_
      refine fr_icmp_ge (tgt := 150) dX8_add_93 (by decide) (by omega) (by omega) (fun c1 => ?_) (fun c1 => ?_)
      · refine fr_iconst dX8_add_150 ?_
        exact fr_iret dX8_add_151 rfl (rfl) (rfl)
      · omega
    refine up_loop (fun i => fw_R mX8_add d 23 [some (.ref 18), some (.int (iI c)), some (.int (iI t)), some (.int (iI i)), none] [] w (some (.int (iI 0))) wE) n ?_ ?_ 0 (Nat.zero_le _)
    · refine fr_iload_n dX8_add_23 rfl ?_
      refine fr_aload_n dX8_add_24 rfl ?_
      refine fr_get fX8_add_25 h1 rfl ?_
      refine fr_icmp_ge (tgt := 86) dX8_add_28 (by decide) (by omega) (by omega) (fun c1 => ?_) (fun c1 => ?_)
      · exact fin.wk (by simp [fw_le])
      · omega
    · intro i hi ih
      refine fr_iload_n dX8_add_23 rfl ?_
      refine fr_aload_n dX8_add_24 rfl ?_
      refine fr_get fX8_add_25 h1 rfl ?_
      refine fr_icmp_ge (tgt := 86) dX8_add_28 (by decide) (by omega) (by omega) (fun c1 => ?_) (fun c1 => ?_)
      · omega
      refine fr_iconst dX8_add_31 ?_
      refine fr_istore dX8_add_32 (by decide) rfl rfl ?_
      dsimp only [List.set, Option.toList, List.cons_append, List.nil_append]
      refine up_loop (fun j => fw_R mX8_add d 34 [some (.ref 18), some (.int (iI c)), some (.int (iI t)), some (.int (iI i)), some (.int (iI j))] [] w (some (.int (iI 0))) wE) n ?_ ?_ 0 (Nat.zero_le _)
      · refine fr_iload dX8_add_34 rfl ?_
        refine fr_aload_n dX8_add_36 rfl ?_
        refine fr_get fX8_add_37 h1 rfl ?_
        refine fr_icmp_ge (tgt := 80) dX8_add_40 (by decide) (by omega) (by omega) (fun c1 => ?_) (fun c1 => ?_)
        · refine fr_iinc dX8_add_80 rfl (by decide) rfl rfl ?_
          dsimp only [List.set, Option.toList, List.cons_append, List.nil_append]
          refine fr_goto (tgt := 23) dX8_add_83 (by decide) ?_
          exact ih.wk (by simp [fw_le])
        · omega
      · intro j hj ihj
        have dij := hD i j hi hj
        have rp := b2_r (pt c i j)
        have hin2 := c_in (d := 0) (w := w) (v := D i j + t) (lo := 0) (hi := 30) (by omega) (by omega) (by omega)
        have rq := b2_r (decide (0 ≤ D i j + t ∧ D i j + t ≤ 30))
        have stay : fw_R mX8_add d 74 [some (.ref 18), some (.int (iI c)), some (.int (iI t)), some (.int (iI i)), some (.int (iI j))] [] w (some (.int (iI 0))) wE := by
          refine fr_iinc dX8_add_74 rfl (by decide) rfl rfl ?_
          dsimp only [List.set, Option.toList, List.cons_append, List.nil_append]
          refine fr_goto (tgt := 34) dX8_add_77 (by decide) ?_
          exact ihj
        refine fr_iload dX8_add_34 rfl ?_
        refine fr_aload_n dX8_add_36 rfl ?_
        refine fr_get fX8_add_37 h1 rfl ?_
        refine fr_icmp_ge (tgt := 80) dX8_add_40 (by decide) (by omega) (by omega) (fun c1 => ?_) (fun c1 => ?_)
        · omega
        refine fr_iload_n dX8_add_43 rfl ?_
        refine fr_iload_n dX8_add_44 rfl ?_
        refine fr_iload dX8_add_45 rfl ?_
        refine fr_callS kX8_add_47 (c_mparts (d := 0) (z := c) (i := i) (j := j) (by omega) (by omega) (by omega)) (by omega) rfl rfl rfl ?_
        dsimp only [List.set, Option.toList, List.cons_append, List.nil_append]
        refine fr_if_eq (tgt := 74) dX8_add_50 (by decide) (by omega) (fun c2 => ?_) (fun c2 => ?_)
        · exact stay
        · refine fr_aload_n dX8_add_53 rfl ?_
          refine fr_iload_n dX8_add_54 rfl ?_
          refine fr_iload dX8_add_55 rfl ?_
          refine fr_callV kX8_add_57 (c_mdist (d := 0) h hi hj) (by omega) h1 rfl rfl rfl ?_
          dsimp only [List.set, Option.toList, List.cons_append, List.nil_append]
          refine fr_iload_n dX8_add_60 rfl ?_
          refine fr_iadd dX8_add_61 ?_
          refine fr_iconst dX8_add_62 ?_
          refine fr_bipush dX8_add_63 (by decide) ?_
          refine fr_callS kX8_add_65 (hin2) (by omega) rfl rfl rfl ?_
          dsimp only [List.set, Option.toList, List.cons_append, List.nil_append]
          refine fr_if_ne (tgt := 74) dX8_add_68 (by decide) (by omega) (fun c3 => ?_) (fun c3 => ?_)
          · exact stay
          · have c4 := b2_0.mp c3
            simp only [decide_eq_false_iff_not] at c4
            exact absurd (hb' i hi j hj (b2_n0.mp c2)) c4
