/-! the judges of laws 0, 1, 2 -/
def p0 (n : Nat) (D : Nat → Nat → Int) (x : Nat) : Bool := decide (x / 64 % 8 < n ∧ x / 8 % 8 < n ∧ x % 8 < n ∧ x / 64 % 8 < x % 8 ∧ x / 8 % 8 ≠ x / 64 % 8 ∧ x / 8 % 8 ≠ x % 8 ∧ D (x / 64 % 8) (x % 8) > D (x / 64 % 8) (x / 8 % 8) + D (x / 8 % 8) (x % 8))
def p2 (n : Nat) (D : Nat → Nat → Int) (x : Nat) : Bool := decide (x % 8 < n ∧ x / 64 % 8 < x / 8 % 8 ∧ x / 8 % 8 < x % 8 ∧ alone (D (x / 64 % 8) (x / 8 % 8)) (D (x / 64 % 8) (x % 8)) (D (x / 8 % 8) (x % 8)) = true)
def p1 (n : Nat) (D : Nat → Nat → Int) (x : Nat) : Bool := decide (x % 8 < n ∧ x / 512 < x / 64 % 8 ∧ x / 64 % 8 < x / 8 % 8 ∧ x / 8 % 8 < x % 8 ∧ alone (D (x / 512) (x / 64 % 8) + D (x / 8 % 8) (x % 8)) (D (x / 512) (x / 8 % 8) + D (x / 64 % 8) (x % 8)) (D (x / 512) (x % 8) + D (x / 64 % 8) (x / 8 % 8)) = true)
theorem dg3 (q : Nat) : q / 64 = q / 8 / 8 ∧ q = 64 * (q / 64) + 8 * (q / 8 % 8) + q % 8 := by
  have h : q / 64 = q / 8 / 8 := by rw [Nat.div_div_eq_div_mul]
  omega
theorem p0_a {n i j q : Nat} {D : Nat → Nat → Int} (hi : i < 8) (hj : j < 6) (h1 : 64 * i + 8 * j ≤ q) (h2 : q < 64 * i + 8 * j + (i + 1)) : p0 n D q = false := by
  unfold p0
  simp only [decide_eq_false_iff_not]
  intro z
  have a1 : q / 64 = i := by omega
  have a2 : q / 64 % 8 = i := by rw [a1]; exact Nat.mod_eq_of_lt (by omega)
  have a3 : q / 8 = 8 * i + j := by omega
  have a4 : q % 8 ≤ i := by omega
  have a5 := z.2.2.2.1
  rw [a2] at a5
  omega
theorem p2_e {n q : Nat} {D : Nat → Nat → Int} (h1 : 64 * n ≤ q) (h2 : q < 512) : p2 n D q = false := by
  unfold p2
  simp only [decide_eq_false_iff_not]
  intro z
  have a1 : q / 64 < 8 := by omega
  have a2 : q / 64 % 8 = q / 64 := Nat.mod_eq_of_lt a1
  have a3 : n ≤ q / 64 := by omega
  have a4 := z.2.1
  have a5 := z.2.2.1
  have a6 := z.1
  rw [a2] at a4
  omega
theorem or_2 : ∀ i : Nat, i < 8 → ∀ j : Nat, j < 8 → (i * 2 ^ 6) ||| (j * 2 ^ 3) = 64 * i + 8 * j := by decide +kernel
theorem or_1 : ∀ x : Nat, x < 512 → ∀ k : Nat, k < 8 → (8 * x) ||| k = 8 * x + k := by decide +kernel
theorem or_3 : ∀ i : Nat, i < 8 → ∀ j : Nat, j < 8 → (i * 2 ^ 9) ||| (j * 2 ^ 6) = 512 * i + 64 * j := by decide +kernel
theorem or_4 : ∀ x : Nat, x < 64 → ∀ k : Nat, k < 8 → (64 * x) ||| (k * 2 ^ 3) = 64 * x + 8 * k := by decide +kernel
theorem iI_sh (m k : Nat) (h : m < 8) (hk : k < 10) : iI m <<< (iI (k : Int) &&& 31) = iI ((m * 2 ^ k : Nat) : Int) := by
  have : 2 ^ k ≤ 2 ^ 10 := Nat.pow_le_pow_right (by decide) (by omega)
  exact iI_shl k (by have := Nat.mul_le_mul (show m ≤ 7 by omega) this; omega) (by omega)
theorem c_judgeDetours {d o t a wa n : Nat} {D : Nat → Nat → Int} {w : fw_S} (hd : 2 ≤ d) (h : lst w o t a wa n D (-4) 0) (hD : okR n D 60) : ∃ w', fw_K d mX1_judgeDetours [.ref o] w none w' ∧ lst w' o t a wa n D (scF (p0 n D) 512) (scC (p0 n D) 512) ∧ kp w w' (fun k => k = o) := by
  have hn := h.2.1.2.2
  have skip : ∀ {v : fw_S} {m m' : Nat}, lst v o t a wa n D (scF (p0 n D) m) (scC (p0 n D) m) → m ≤ m' → (∀ k, m ≤ k → k < m' → p0 n D k = false) → lst v o t a wa n D (scF (p0 n D) m') (scC (p0 n D) m') := by
    intro v m m' hl hm hk
    obtain ⟨e1, e2⟩ := sc_skip hm hk
    rw [e1, e2]; exact hl
  have outer := lpE (M := mX1_judgeDetours) (d := d) (pcH := 10) n (fun i _ => [some (.ref o), some (.int (iI n)), some (.int (iI i)), none, none]) (fun i (_ : Unit) v => lst v o t a wa n D (scF (p0 n D) (64 * i)) (scC (p0 n D) (64 * i)) ∧ kp w v (fun k => k = o)) (by
    intro i _ v hi ⟨g1, g2⟩
    have mid := lpE (M := mX1_judgeDetours) (d := d) (pcH := 17) n (fun j _ => [some (.ref o), some (.int (iI n)), some (.int (iI i)), some (.int (iI j)), none]) (fun j (_ : Unit) v => lst v o t a wa n D (scF (p0 n D) (64 * i + 8 * j)) (scC (p0 n D) (64 * i + 8 * j)) ∧ kp w v (fun k => k = o)) (by
      intro j _ v hj ⟨g1, g2⟩
      have inner := lpE (M := mX1_judgeDetours) (d := d) (pcH := 27) n (fun k _ => [some (.ref o), some (.int (iI n)), some (.int (iI i)), some (.int (iI j)), some (.int (iI k))]) (fun k (_ : Unit) v => i < k ∧ lst v o t a wa n D (scF (p0 n D) (64 * i + 8 * j + k)) (scC (p0 n D) (64 * i + 8 * j + k)) ∧ kp w v (fun k => k = o)) (by
        intro k _ v hk ⟨hik, g1, g2⟩
        have hx1 : (64 * i + 8 * j + k) / 64 % 8 = i := by omega
        have hx2 : (64 * i + 8 * j + k) / 8 % 8 = j := by omega
        have hx3 : (64 * i + 8 * j + k) % 8 = k := by omega
        have d1 := hD i k hi hk
        have d2 := hD i j hi hj
        have d3 := hD j k hj hk
        have hg1 := g1.1
        have hg2 := g1.2.1
        have hg3 := hg2.1
        by_cases hb : j ≠ i ∧ j ≠ k ∧ D i k > D i j + D j k
        · have hp : p0 n D (64 * i + 8 * j + k) = true := by
            unfold p0; rw [hx1, hx2, hx3]; simp only [decide_eq_true_eq]; exact ⟨hi, hj, hk, hik, hb.1, hb.2.1, hb.2.2⟩
          obtain ⟨w1, k1, k2, k3⟩ := c_noteS (d := 0) g1 (by omega) hp
          rw [show ((64 * i + 8 * j + k : Nat) : Int) = (((64 * i + 8 * j + k : Nat)) : Int) from rfl] at k1
          refine ⟨(), w1, ⟨by omega, k2, g2.trans k3⟩, ?_⟩
          intro r w' kk
          refine fr_iload dX1_judgeDetours_27 rfl ?_
          refine fr_iload_n dX1_judgeDetours_29 rfl ?_
          refine fr_icmp_ge (tgt := 98) dX1_judgeDetours_30 (by decide) (by omega) (by omega) (fun c => ?_) (fun c => ?_)
          · omega
          refine fr_iload_n dX1_judgeDetours_33 rfl ?_
          refine fr_iload_n dX1_judgeDetours_34 rfl ?_
          refine fr_icmp_eq (tgt := 92) dX1_judgeDetours_35 (by decide) (by omega) (by omega) (fun c => ?_) (fun c => ?_)
          · omega
          refine fr_iload_n dX1_judgeDetours_38 rfl ?_
          refine fr_iload dX1_judgeDetours_39 rfl ?_
          refine fr_icmp_eq (tgt := 92) dX1_judgeDetours_41 (by decide) (by omega) (by omega) (fun c => ?_) (fun c => ?_)
          · omega
          refine fr_aload_n dX1_judgeDetours_44 rfl ?_
          refine fr_get fX1_judgeDetours_45 hg1 rfl ?_
          refine fr_iload_n dX1_judgeDetours_48 rfl ?_
          refine fr_iload dX1_judgeDetours_49 rfl ?_
          refine fr_callV kX1_judgeDetours_51 (c_between (d := 0) hg2 hi hk) (by omega) hg3 rfl rfl rfl ?_
          dsimp only [List.set, Option.toList, List.cons_append, List.nil_append]
          refine fr_aload_n dX1_judgeDetours_54 rfl ?_
          refine fr_get fX1_judgeDetours_55 hg1 rfl ?_
          refine fr_iload_n dX1_judgeDetours_58 rfl ?_
          refine fr_iload_n dX1_judgeDetours_59 rfl ?_
          refine fr_callV kX1_judgeDetours_60 (c_between (d := 0) hg2 hi hj) (by omega) hg3 rfl rfl rfl ?_
          dsimp only [List.set, Option.toList, List.cons_append, List.nil_append]
          refine fr_aload_n dX1_judgeDetours_63 rfl ?_
          refine fr_get fX1_judgeDetours_64 hg1 rfl ?_
          refine fr_iload_n dX1_judgeDetours_67 rfl ?_
          refine fr_iload dX1_judgeDetours_68 rfl ?_
          refine fr_callV kX1_judgeDetours_70 (c_between (d := 0) hg2 hj hk) (by omega) hg3 rfl rfl rfl ?_
          dsimp only [List.set, Option.toList, List.cons_append, List.nil_append]
          refine fr_iadd dX1_judgeDetours_73 ?_
          refine fr_icmp_le (tgt := 92) dX1_judgeDetours_74 (by decide) (by omega) (by omega) (fun c => ?_) (fun c => ?_)
          · omega
          refine fr_aload_n dX1_judgeDetours_77 rfl ?_
          refine fr_iload_n dX1_judgeDetours_78 rfl ?_
          refine fr_bipush dX1_judgeDetours_79 (by decide) ?_
          refine fr_ishl (((i * 2 ^ 6 : Nat) : Int)) dX1_judgeDetours_81 (iI_sh i 6 (by omega) (by decide)) ?_
          refine fr_iload_n dX1_judgeDetours_82 rfl ?_
          refine fr_iconst dX1_judgeDetours_83 ?_
          refine fr_ishl (((j * 2 ^ 3 : Nat) : Int)) dX1_judgeDetours_84 (iI_sh j 3 (by omega) (by decide)) ?_
          refine fr_ior (((64 * i + 8 * j : Nat) : Int)) dX1_judgeDetours_85 (by rw [iI_or, or_2 i (by omega) j (by omega)]) ?_
          refine fr_iload dX1_judgeDetours_86 rfl ?_
          refine fr_ior (((64 * i + 8 * j + k : Nat) : Int)) dX1_judgeDetours_88 (by rw [iI_or, show 64 * i + 8 * j = 8 * (8 * i + j) by omega, or_1 (8 * i + j) (by omega) k (by omega)]) ?_
          refine fr_callV kX1_judgeDetours_89 (k1) (by omega) hg1 rfl rfl rfl ?_
          dsimp only [List.set, Option.toList, List.cons_append, List.nil_append]
          refine fr_iinc dX1_judgeDetours_92 rfl (by decide) rfl rfl ?_
          dsimp only [List.set, Option.toList, List.cons_append, List.nil_append]
          refine fr_goto (tgt := 27) dX1_judgeDetours_95 (by decide) ?_
          exact kk
        · have hp : p0 n D (64 * i + 8 * j + k) = false := by
            unfold p0; rw [hx1, hx2, hx3]; simp only [decide_eq_false_iff_not]; exact fun z => hb ⟨z.2.2.2.2.1, z.2.2.2.2.2.1, z.2.2.2.2.2.2⟩
          refine ⟨(), v, ⟨by omega, skip g1 (by omega) (fun q h1 h2 => by rw [show q = 64 * i + 8 * j + k by omega]; exact hp), g2⟩, ?_⟩
          intro r w' kk
          have done : fw_R mX1_judgeDetours d 92 [some (.ref o), some (.int (iI n)), some (.int (iI i)), some (.int (iI j)), some (.int (iI k))] [] v r w' := by
            refine fr_iinc dX1_judgeDetours_92 rfl (by decide) rfl rfl ?_
            dsimp only [List.set, Option.toList, List.cons_append, List.nil_append]
            refine fr_goto (tgt := 27) dX1_judgeDetours_95 (by decide) ?_
            exact kk
          refine fr_iload dX1_judgeDetours_27 rfl ?_
          refine fr_iload_n dX1_judgeDetours_29 rfl ?_
          refine fr_icmp_ge (tgt := 98) dX1_judgeDetours_30 (by decide) (by omega) (by omega) (fun c => ?_) (fun c => ?_)
          · omega
          refine fr_iload_n dX1_judgeDetours_33 rfl ?_
          refine fr_iload_n dX1_judgeDetours_34 rfl ?_
          refine fr_icmp_eq (tgt := 92) dX1_judgeDetours_35 (by decide) (by omega) (by omega) (fun c2 => ?_) (fun c2 => ?_)
          · exact done
          refine fr_iload_n dX1_judgeDetours_38 rfl ?_
          refine fr_iload dX1_judgeDetours_39 rfl ?_
          refine fr_icmp_eq (tgt := 92) dX1_judgeDetours_41 (by decide) (by omega) (by omega) (fun c3 => ?_) (fun c3 => ?_)
          · exact done
          refine fr_aload_n dX1_judgeDetours_44 rfl ?_
          refine fr_get fX1_judgeDetours_45 hg1 rfl ?_
          refine fr_iload_n dX1_judgeDetours_48 rfl ?_
          refine fr_iload dX1_judgeDetours_49 rfl ?_
          refine fr_callV kX1_judgeDetours_51 (c_between (d := 0) hg2 hi hk) (by omega) hg3 rfl rfl rfl ?_
          dsimp only [List.set, Option.toList, List.cons_append, List.nil_append]
          refine fr_aload_n dX1_judgeDetours_54 rfl ?_
          refine fr_get fX1_judgeDetours_55 hg1 rfl ?_
          refine fr_iload_n dX1_judgeDetours_58 rfl ?_
          refine fr_iload_n dX1_judgeDetours_59 rfl ?_
          refine fr_callV kX1_judgeDetours_60 (c_between (d := 0) hg2 hi hj) (by omega) hg3 rfl rfl rfl ?_
          dsimp only [List.set, Option.toList, List.cons_append, List.nil_append]
          refine fr_aload_n dX1_judgeDetours_63 rfl ?_
          refine fr_get fX1_judgeDetours_64 hg1 rfl ?_
          refine fr_iload_n dX1_judgeDetours_67 rfl ?_
          refine fr_iload dX1_judgeDetours_68 rfl ?_
          refine fr_callV kX1_judgeDetours_70 (c_between (d := 0) hg2 hj hk) (by omega) hg3 rfl rfl rfl ?_
          dsimp only [List.set, Option.toList, List.cons_append, List.nil_append]
          refine fr_iadd dX1_judgeDetours_73 ?_
          refine fr_icmp_le (tgt := 92) dX1_judgeDetours_74 (by decide) (by omega) (by omega) (fun c4 => ?_) (fun c4 => ?_)
          · exact done
          · exact absurd ⟨by omega, by omega, by omega⟩ hb)
      obtain ⟨_, wE, ⟨-, e1, e2⟩, hr⟩ := inner (i + 1) () v (by omega) ⟨by omega, skip g1 (by omega) (fun q h1 h2 => p0_a (by omega) (by omega) h1 h2), g2⟩
      refine ⟨(), wE, ⟨skip e1 (by omega) (fun q h1 h2 => by unfold p0; simp only [decide_eq_false_iff_not]; intro z; have h9 := dg3 q; omega), e2⟩, ?_⟩
      intro r w' kk
      refine fr_iload_n dX1_judgeDetours_17 rfl ?_
      refine fr_iload_n dX1_judgeDetours_18 rfl ?_
      refine fr_icmp_ge (tgt := 104) dX1_judgeDetours_19 (by decide) (by omega) (by omega) (fun c => ?_) (fun c => ?_)
      · omega
      refine fr_iload_n dX1_judgeDetours_22 rfl ?_
      refine fr_iconst dX1_judgeDetours_23 ?_
      refine fr_iadd dX1_judgeDetours_24 ?_
      refine fr_istore dX1_judgeDetours_25 (by decide) rfl rfl ?_
      dsimp only [List.set, Option.toList, List.cons_append, List.nil_append]
      refine hr r w' ?_
      refine fr_iload dX1_judgeDetours_27 rfl ?_
      refine fr_iload_n dX1_judgeDetours_29 rfl ?_
      refine fr_icmp_ge (tgt := 98) dX1_judgeDetours_30 (by decide) (by omega) (by omega) (fun c => ?_) (fun c => ?_)
      · refine fr_iinc dX1_judgeDetours_98 rfl (by decide) rfl rfl ?_
        dsimp only [List.set, Option.toList, List.cons_append, List.nil_append]
        refine fr_goto (tgt := 17) dX1_judgeDetours_101 (by decide) ?_
        exact kk.wk (by simp [fw_le])
      · omega)
    obtain ⟨_, wE, ⟨e1, e2⟩, hr⟩ := mid 0 () v (Nat.zero_le _) ⟨g1, g2⟩
    refine ⟨(), wE, ⟨skip e1 (by omega) (fun q h1 h2 => by unfold p0; simp only [decide_eq_false_iff_not]; intro z; have h9 := dg3 q; omega), e2⟩, ?_⟩
    intro r w' kk
    refine fr_iload_n dX1_judgeDetours_10 rfl ?_
    refine fr_iload_n dX1_judgeDetours_11 rfl ?_
    refine fr_icmp_ge (tgt := 110) dX1_judgeDetours_12 (by decide) (by omega) (by omega) (fun c => ?_) (fun c => ?_)
    · omega
    refine fr_iconst dX1_judgeDetours_15 ?_
    refine fr_istore_n dX1_judgeDetours_16 rfl (by decide) rfl rfl ?_
    dsimp only [List.set, Option.toList, List.cons_append, List.nil_append]
    refine hr r w' ?_
    refine fr_iload_n dX1_judgeDetours_17 rfl ?_
    refine fr_iload_n dX1_judgeDetours_18 rfl ?_
    refine fr_icmp_ge (tgt := 104) dX1_judgeDetours_19 (by decide) (by omega) (by omega) (fun c => ?_) (fun c => ?_)
    · refine fr_iinc dX1_judgeDetours_104 rfl (by decide) rfl rfl ?_
      dsimp only [List.set, Option.toList, List.cons_append, List.nil_append]
      refine fr_goto (tgt := 10) dX1_judgeDetours_107 (by decide) ?_
      exact kk.wk (by simp [fw_le])
    · omega)
  obtain ⟨_, wE, ⟨e1, e2⟩, hr⟩ := outer 0 () w (Nat.zero_le _) ⟨h, kp.rf⟩
  refine ⟨wE, ?_, skip e1 (by omega) (fun q h1 h2 => by unfold p0; simp only [decide_eq_false_iff_not]; intro z; have h9 := dg3 q; omega), e2⟩
  refine fw_K.of (by decide) (Nat.le_of_ble_eq_true rfl) (by simp [Value.category]) (e2.1) ?_
  show fw_R _ _ 0 [some (.ref o), none, none, none, none] [] _ _ _
  have h1 := h.1
  have h3 := h.2.1.1
  refine fr_aload_n dX1_judgeDetours_0 rfl ?_
  refine fr_get fX1_judgeDetours_1 h1 rfl ?_
  refine fr_get fX1_judgeDetours_4 h3 rfl ?_
  refine fr_istore_n dX1_judgeDetours_7 rfl (by decide) rfl rfl ?_
  dsimp only [List.set, Option.toList, List.cons_append, List.nil_append]
  refine fr_iconst dX1_judgeDetours_8 ?_
  refine fr_istore_n dX1_judgeDetours_9 rfl (by decide) rfl rfl ?_
  dsimp only [List.set, Option.toList, List.cons_append, List.nil_append]
  refine hr _ _ ?_
  refine fr_iload_n dX1_judgeDetours_10 rfl ?_
  refine fr_iload_n dX1_judgeDetours_11 rfl ?_
  refine fr_icmp_ge (tgt := 110) dX1_judgeDetours_12 (by decide) (by omega) (by omega) (fun c => ?_) (fun c => ?_)
  · exact fr_vret dX1_judgeDetours_110 rfl rfl (rfl)
  · omega
theorem c_judgeNests {d o t a wa n : Nat} {D : Nat → Nat → Int} {w : fw_S} (hd : 2 ≤ d) (h : lst w o t a wa n D (-4) 0) (hD : okR n D 60) : ∃ w', fw_K d mX1_judgeNests [.ref o] w none w' ∧ lst w' o t a wa n D (scF (p2 n D) 512) (scC (p2 n D) 512) ∧ kp w w' (fun k => k = o) := by
  have hn := h.2.1.2.2
  have skip : ∀ {v : fw_S} {m m' : Nat}, lst v o t a wa n D (scF (p2 n D) m) (scC (p2 n D) m) → m ≤ m' → (∀ k, m ≤ k → k < m' → p2 n D k = false) → lst v o t a wa n D (scF (p2 n D) m') (scC (p2 n D) m') := by
    intro v m m' hl hm hk
    obtain ⟨e1, e2⟩ := sc_skip hm hk
    rw [e1, e2]; exact hl
  have outer := lpE (M := mX1_judgeNests) (d := d) (pcH := 10) n (fun i _ => [some (.ref o), some (.int (iI n)), some (.int (iI i)), none, none]) (fun i (_ : Unit) v => lst v o t a wa n D (scF (p2 n D) (64 * i)) (scC (p2 n D) (64 * i)) ∧ kp w v (fun k => k = o)) (by
    intro i _ v hi ⟨g1, g2⟩
    have mid := lpE (M := mX1_judgeNests) (d := d) (pcH := 19) n (fun j _ => [some (.ref o), some (.int (iI n)), some (.int (iI i)), some (.int (iI j)), none]) (fun j (_ : Unit) v => i < j ∧ lst v o t a wa n D (scF (p2 n D) (64 * i + 8 * j)) (scC (p2 n D) (64 * i + 8 * j)) ∧ kp w v (fun k => k = o)) (by
      intro j _ v hj ⟨hij, g1, g2⟩
      have inner := lpE (M := mX1_judgeNests) (d := d) (pcH := 29) n (fun k _ => [some (.ref o), some (.int (iI n)), some (.int (iI i)), some (.int (iI j)), some (.int (iI k))]) (fun k (_ : Unit) v => j < k ∧ lst v o t a wa n D (scF (p2 n D) (64 * i + 8 * j + k)) (scC (p2 n D) (64 * i + 8 * j + k)) ∧ kp w v (fun k => k = o)) (by
        intro k _ v hk ⟨hjk, g1, g2⟩
        have hx1 : (64 * i + 8 * j + k) / 64 % 8 = i := by omega
        have hx2 : (64 * i + 8 * j + k) / 8 % 8 = j := by omega
        have hx3 : (64 * i + 8 * j + k) % 8 = k := by omega
        have d1 := hD i k hi hk
        have d2 := hD i j hi hj
        have d3 := hD j k hj hk
        have hg1 := g1.1
        have hg2 := g1.2.1
        have hg3 := hg2.1
        have rb := b2_r (alone (D i j) (D i k) (D j k))
        cases hb : alone (D i j) (D i k) (D j k) with
        | true =>
          have hp : p2 n D (64 * i + 8 * j + k) = true := by
            unfold p2; rw [hx1, hx2, hx3]; simp only [decide_eq_true_eq]; exact ⟨hk, hij, hjk, hb⟩
          obtain ⟨w1, k1, k2, k3⟩ := c_noteS (d := 0) g1 (by omega) hp
          refine ⟨(), w1, ⟨by omega, k2, g2.trans k3⟩, ?_⟩
          intro r w' kk
          refine fr_iload dX1_judgeNests_29 rfl ?_
          refine fr_iload_n dX1_judgeNests_31 rfl ?_
          refine fr_icmp_ge (tgt := 91) dX1_judgeNests_32 (by decide) (by omega) (by omega) (fun c => ?_) (fun c => ?_)
          · omega
          refine fr_aload_n dX1_judgeNests_35 rfl ?_
          refine fr_get fX1_judgeNests_36 hg1 rfl ?_
          refine fr_iload_n dX1_judgeNests_39 rfl ?_
          refine fr_iload_n dX1_judgeNests_40 rfl ?_
          refine fr_callV kX1_judgeNests_41 (c_between (d := 0) hg2 hi hj) (by omega) hg3 rfl rfl rfl ?_
          dsimp only [List.set, Option.toList, List.cons_append, List.nil_append]
          refine fr_aload_n dX1_judgeNests_44 rfl ?_
          refine fr_get fX1_judgeNests_45 hg1 rfl ?_
          refine fr_iload_n dX1_judgeNests_48 rfl ?_
          refine fr_iload dX1_judgeNests_49 rfl ?_
          refine fr_callV kX1_judgeNests_51 (c_between (d := 0) hg2 hi hk) (by omega) hg3 rfl rfl rfl ?_
          dsimp only [List.set, Option.toList, List.cons_append, List.nil_append]
          refine fr_aload_n dX1_judgeNests_54 rfl ?_
          refine fr_get fX1_judgeNests_55 hg1 rfl ?_
          refine fr_iload_n dX1_judgeNests_58 rfl ?_
          refine fr_iload dX1_judgeNests_59 rfl ?_
          refine fr_callV kX1_judgeNests_61 (c_between (d := 0) hg2 hj hk) (by omega) hg3 rfl rfl rfl ?_
          dsimp only [List.set, Option.toList, List.cons_append, List.nil_append]
          refine fr_callS kX1_judgeNests_64 (c_alone (d := 1) (by omega) (by omega) (by omega) (by omega)) (by omega) rfl rfl rfl ?_
          dsimp only [List.set, Option.toList, List.cons_append, List.nil_append]
          refine fr_if_eq (tgt := 85) dX1_judgeNests_67 (by decide) (by omega) (fun c => ?_) (fun c => ?_)
          · rw [hb] at c; exact absurd c (by decide)
          refine fr_aload_n dX1_judgeNests_70 rfl ?_
          refine fr_iload_n dX1_judgeNests_71 rfl ?_
          refine fr_bipush dX1_judgeNests_72 (by decide) ?_
          refine fr_ishl (((i * 2 ^ 6 : Nat) : Int)) dX1_judgeNests_74 (iI_sh i 6 (by omega) (by decide)) ?_
          refine fr_iload_n dX1_judgeNests_75 rfl ?_
          refine fr_iconst dX1_judgeNests_76 ?_
          refine fr_ishl (((j * 2 ^ 3 : Nat) : Int)) dX1_judgeNests_77 (iI_sh j 3 (by omega) (by decide)) ?_
          refine fr_ior (((64 * i + 8 * j : Nat) : Int)) dX1_judgeNests_78 (by rw [iI_or, or_2 i (by omega) j (by omega)]) ?_
          refine fr_iload dX1_judgeNests_79 rfl ?_
          refine fr_ior (((64 * i + 8 * j + k : Nat) : Int)) dX1_judgeNests_81 (by rw [iI_or, show 64 * i + 8 * j = 8 * (8 * i + j) by omega, or_1 (8 * i + j) (by omega) k (by omega)]) ?_
          refine fr_callV kX1_judgeNests_82 (k1) (by omega) hg1 rfl rfl rfl ?_
          dsimp only [List.set, Option.toList, List.cons_append, List.nil_append]
          refine fr_iinc dX1_judgeNests_85 rfl (by decide) rfl rfl ?_
          dsimp only [List.set, Option.toList, List.cons_append, List.nil_append]
          refine fr_goto (tgt := 29) dX1_judgeNests_88 (by decide) ?_
          exact kk
        | false =>
          have hp : p2 n D (64 * i + 8 * j + k) = false := by
            unfold p2; rw [hx1, hx2, hx3]; simp only [decide_eq_false_iff_not]; intro z; rw [hb] at z; exact absurd z.2.2.2 (by decide)
          refine ⟨(), v, ⟨by omega, skip g1 (by omega) (fun q h1 h2 => by rw [show q = 64 * i + 8 * j + k by omega]; exact hp), g2⟩, ?_⟩
          intro r w' kk
          refine fr_iload dX1_judgeNests_29 rfl ?_
          refine fr_iload_n dX1_judgeNests_31 rfl ?_
          refine fr_icmp_ge (tgt := 91) dX1_judgeNests_32 (by decide) (by omega) (by omega) (fun c => ?_) (fun c => ?_)
          · omega
          refine fr_aload_n dX1_judgeNests_35 rfl ?_
          refine fr_get fX1_judgeNests_36 hg1 rfl ?_
          refine fr_iload_n dX1_judgeNests_39 rfl ?_
          refine fr_iload_n dX1_judgeNests_40 rfl ?_
          refine fr_callV kX1_judgeNests_41 (c_between (d := 0) hg2 hi hj) (by omega) hg3 rfl rfl rfl ?_
          dsimp only [List.set, Option.toList, List.cons_append, List.nil_append]
          refine fr_aload_n dX1_judgeNests_44 rfl ?_
          refine fr_get fX1_judgeNests_45 hg1 rfl ?_
          refine fr_iload_n dX1_judgeNests_48 rfl ?_
          refine fr_iload dX1_judgeNests_49 rfl ?_
          refine fr_callV kX1_judgeNests_51 (c_between (d := 0) hg2 hi hk) (by omega) hg3 rfl rfl rfl ?_
          dsimp only [List.set, Option.toList, List.cons_append, List.nil_append]
          refine fr_aload_n dX1_judgeNests_54 rfl ?_
          refine fr_get fX1_judgeNests_55 hg1 rfl ?_
          refine fr_iload_n dX1_judgeNests_58 rfl ?_
          refine fr_iload dX1_judgeNests_59 rfl ?_
          refine fr_callV kX1_judgeNests_61 (c_between (d := 0) hg2 hj hk) (by omega) hg3 rfl rfl rfl ?_
          dsimp only [List.set, Option.toList, List.cons_append, List.nil_append]
          refine fr_callS kX1_judgeNests_64 (c_alone (d := 1) (by omega) (by omega) (by omega) (by omega)) (by omega) rfl rfl rfl ?_
          dsimp only [List.set, Option.toList, List.cons_append, List.nil_append]
          refine fr_if_eq (tgt := 85) dX1_judgeNests_67 (by decide) (by omega) (fun c => ?_) (fun c => ?_)
          · refine fr_iinc dX1_judgeNests_85 rfl (by decide) rfl rfl ?_
            dsimp only [List.set, Option.toList, List.cons_append, List.nil_append]
            refine fr_goto (tgt := 29) dX1_judgeNests_88 (by decide) ?_
            exact kk
          · rw [hb] at c; exact absurd rfl c)
      obtain ⟨_, wE, ⟨-, e1, e2⟩, hr⟩ := inner (j + 1) () v (by omega) ⟨by omega, skip g1 (by omega) (fun q h1 h2 => by unfold p2; simp only [decide_eq_false_iff_not]; intro z; have h9 := dg3 q; omega), g2⟩
      refine ⟨(), wE, ⟨by omega, skip e1 (by omega) (fun q h1 h2 => by unfold p2; simp only [decide_eq_false_iff_not]; intro z; have h9 := dg3 q; omega), e2⟩, ?_⟩
      intro r w' kk
      refine fr_iload_n dX1_judgeNests_19 rfl ?_
      refine fr_iload_n dX1_judgeNests_20 rfl ?_
      refine fr_icmp_ge (tgt := 97) dX1_judgeNests_21 (by decide) (by omega) (by omega) (fun c => ?_) (fun c => ?_)
      · omega
      refine fr_iload_n dX1_judgeNests_24 rfl ?_
      refine fr_iconst dX1_judgeNests_25 ?_
      refine fr_iadd dX1_judgeNests_26 ?_
      refine fr_istore dX1_judgeNests_27 (by decide) rfl rfl ?_
      dsimp only [List.set, Option.toList, List.cons_append, List.nil_append]
      refine hr r w' ?_
      refine fr_iload dX1_judgeNests_29 rfl ?_
      refine fr_iload_n dX1_judgeNests_31 rfl ?_
      refine fr_icmp_ge (tgt := 91) dX1_judgeNests_32 (by decide) (by omega) (by omega) (fun c => ?_) (fun c => ?_)
      · refine fr_iinc dX1_judgeNests_91 rfl (by decide) rfl rfl ?_
        dsimp only [List.set, Option.toList, List.cons_append, List.nil_append]
        refine fr_goto (tgt := 19) dX1_judgeNests_94 (by decide) ?_
        exact kk.wk (by simp [fw_le])
      · omega)
    obtain ⟨_, wE, ⟨-, e1, e2⟩, hr⟩ := mid (i + 1) () v (by omega) ⟨by omega, skip g1 (by omega) (fun q h1 h2 => by unfold p2; simp only [decide_eq_false_iff_not]; intro z; have h9 := dg3 q; omega), g2⟩
    refine ⟨(), wE, ⟨skip e1 (by omega) (fun q h1 h2 => by unfold p2; simp only [decide_eq_false_iff_not]; intro z; have h9 := dg3 q; omega), e2⟩, ?_⟩
    intro r w' kk
    refine fr_iload_n dX1_judgeNests_10 rfl ?_
    refine fr_iload_n dX1_judgeNests_11 rfl ?_
    refine fr_icmp_ge (tgt := 103) dX1_judgeNests_12 (by decide) (by omega) (by omega) (fun c => ?_) (fun c => ?_)
    · omega
    refine fr_iload_n dX1_judgeNests_15 rfl ?_
    refine fr_iconst dX1_judgeNests_16 ?_
    refine fr_iadd dX1_judgeNests_17 ?_
    refine fr_istore_n dX1_judgeNests_18 rfl (by decide) rfl rfl ?_
    dsimp only [List.set, Option.toList, List.cons_append, List.nil_append]
    refine hr r w' ?_
    refine fr_iload_n dX1_judgeNests_19 rfl ?_
    refine fr_iload_n dX1_judgeNests_20 rfl ?_
    refine fr_icmp_ge (tgt := 97) dX1_judgeNests_21 (by decide) (by omega) (by omega) (fun c => ?_) (fun c => ?_)
    · refine fr_iinc dX1_judgeNests_97 rfl (by decide) rfl rfl ?_
      dsimp only [List.set, Option.toList, List.cons_append, List.nil_append]
      refine fr_goto (tgt := 10) dX1_judgeNests_100 (by decide) ?_
      exact kk.wk (by simp [fw_le])
    · omega)
  obtain ⟨_, wE, ⟨e1, e2⟩, hr⟩ := outer 0 () w (Nat.zero_le _) ⟨h, kp.rf⟩
  refine ⟨wE, ?_, skip e1 (by omega) (fun q h1 h2 => p2_e h1 h2), e2⟩
  refine fw_K.of (by decide) (Nat.le_of_ble_eq_true rfl) (by simp [Value.category]) (e2.1) ?_
  show fw_R _ _ 0 [some (.ref o), none, none, none, none] [] _ _ _
  have h1 := h.1
  have h3 := h.2.1.1
  refine fr_aload_n dX1_judgeNests_0 rfl ?_
  refine fr_get fX1_judgeNests_1 h1 rfl ?_
  refine fr_get fX1_judgeNests_4 h3 rfl ?_
  refine fr_istore_n dX1_judgeNests_7 rfl (by decide) rfl rfl ?_
  dsimp only [List.set, Option.toList, List.cons_append, List.nil_append]
  refine fr_iconst dX1_judgeNests_8 ?_
  refine fr_istore_n dX1_judgeNests_9 rfl (by decide) rfl rfl ?_
  dsimp only [List.set, Option.toList, List.cons_append, List.nil_append]
  refine hr _ _ ?_
  refine fr_iload_n dX1_judgeNests_10 rfl ?_
  refine fr_iload_n dX1_judgeNests_11 rfl ?_
  refine fr_icmp_ge (tgt := 103) dX1_judgeNests_12 (by decide) (by omega) (by omega) (fun c => ?_) (fun c => ?_)
  · exact fr_vret dX1_judgeNests_103 rfl rfl (rfl)
  · omega
