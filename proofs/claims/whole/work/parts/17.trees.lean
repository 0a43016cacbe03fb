/-! the judge of law 1 -/
theorem p1_no {n q : Nat} {D : Nat → Nat → Int} (h : ∀ A B C E : Nat, q = 512 * A + 64 * B + 8 * C + E → A < B → B < C → C < E → E < n → False) : p1 n D q = false := by
  unfold p1
  simp only [decide_eq_false_iff_not]
  intro z
  have h9 := dg3 q
  have h8 : q / 512 = q / 64 / 8 := by rw [Nat.div_div_eq_div_mul]
  exact h (q / 512) (q / 64 % 8) (q / 8 % 8) (q % 8) (by omega) z.2.1 z.2.2.1 z.2.2.2.1 z.1
theorem c_judgeTrees {d o t a wa n : Nat} {D : Nat → Nat → Int} {w : fw_S} (hd : 3 ≤ d) (h : lst w o t a wa n D (-4) 0) (hD : okR n D 60) : ∃ w', fw_K d mX1_judgeTrees [.ref o] w none w' ∧ lst w' o t a wa n D (scF (p1 n D) 4096) (scC (p1 n D) 4096) ∧ kp w w' (fun k => k = o) := by
  have hn := h.2.1.2.2
  have skip : ∀ {v : fw_S} {m m' : Nat}, lst v o t a wa n D (scF (p1 n D) m) (scC (p1 n D) m) → m ≤ m' → (∀ k, m ≤ k → k < m' → p1 n D k = false) → lst v o t a wa n D (scF (p1 n D) m') (scC (p1 n D) m') := by
    intro v m m' hl hm hk
    obtain ⟨e1, e2⟩ := sc_skip hm hk
    rw [e1, e2]; exact hl
  have outer := lpE (M := mX1_judgeTrees) (d := d) (pcH := 10) n (fun i _ => [some (.ref o), some (.int (iI n)), some (.int (iI i)), none, none, none]) (fun i (_ : Unit) v => lst v o t a wa n D (scF (p1 n D) (512 * i)) (scC (p1 n D) (512 * i)) ∧ kp w v (fun k => k = o)) (by
    intro i _ v hi ⟨g1, g2⟩
    have mid := lpE (M := mX1_judgeTrees) (d := d) (pcH := 19) n (fun j _ => [some (.ref o), some (.int (iI n)), some (.int (iI i)), some (.int (iI j)), none, none]) (fun j (_ : Unit) v => i < j ∧ lst v o t a wa n D (scF (p1 n D) (512 * i + 64 * j)) (scC (p1 n D) (512 * i + 64 * j)) ∧ kp w v (fun k => k = o)) (by
      intro j _ v hj ⟨hij, g1, g2⟩
      have mid2 := lpE (M := mX1_judgeTrees) (d := d) (pcH := 29) n (fun k _ => [some (.ref o), some (.int (iI n)), some (.int (iI i)), some (.int (iI j)), some (.int (iI k)), none]) (fun k (_ : Unit) v => j < k ∧ lst v o t a wa n D (scF (p1 n D) (512 * i + 64 * j + 8 * k)) (scC (p1 n D) (512 * i + 64 * j + 8 * k)) ∧ kp w v (fun k => k = o)) (by
        intro k _ v hk ⟨hjk, g1, g2⟩
        have inner := lpE (M := mX1_judgeTrees) (d := d) (pcH := 41) n (fun l _ => [some (.ref o), some (.int (iI n)), some (.int (iI i)), some (.int (iI j)), some (.int (iI k)), some (.int (iI l))]) (fun l (_ : Unit) v => k < l ∧ lst v o t a wa n D (scF (p1 n D) (512 * i + 64 * j + 8 * k + l)) (scC (p1 n D) (512 * i + 64 * j + 8 * k + l)) ∧ kp w v (fun k => k = o)) (by
          intro l _ v hl ⟨hkl, g1, g2⟩
          have hx0 : (512 * i + 64 * j + 8 * k + l) / 512 = i := by omega
          have hx1 : (512 * i + 64 * j + 8 * k + l) / 64 % 8 = j := by omega
          have hx2 : (512 * i + 64 * j + 8 * k + l) / 8 % 8 = k := by omega
          have hx3 : (512 * i + 64 * j + 8 * k + l) % 8 = l := by omega
          have hg1 := g1.1
          have hso := c_sumsStickOut (d := d - 1) (by omega) g1 hD hi hj hk hl
          have rb := b2_r (alone (D i j + D k l) (D i k + D j l) (D i l + D j k))
          cases hb : alone (D i j + D k l) (D i k + D j l) (D i l + D j k) with
          | true =>
            have hp : p1 n D (512 * i + 64 * j + 8 * k + l) = true := by
              unfold p1; rw [hx0, hx1, hx2, hx3]; simp only [decide_eq_true_eq]; exact ⟨hl, hij, hjk, hkl, hb⟩
            obtain ⟨w1, k1, k2, k3⟩ := c_noteS (d := 0) g1 (by omega) hp
            refine ⟨(), w1, ⟨by omega, k2, g2.trans k3⟩, ?_⟩
            intro r w' kk
            refine fr_iload dX1_judgeTrees_41 rfl ?_
            refine fr_iload_n dX1_judgeTrees_43 rfl ?_
            refine fr_icmp_ge (tgt := 87) dX1_judgeTrees_44 (by decide) (by omega) (by omega) (fun c => ?_) (fun c => ?_)
            · omega
            refine fr_aload_n dX1_judgeTrees_47 rfl ?_
            refine fr_iload_n dX1_judgeTrees_48 rfl ?_
            refine fr_iload_n dX1_judgeTrees_49 rfl ?_
            refine fr_iload dX1_judgeTrees_50 rfl ?_
            refine fr_iload dX1_judgeTrees_52 rfl ?_
            refine fr_callV kX1_judgeTrees_54 (hso) (by omega) hg1 rfl rfl rfl ?_
            dsimp only [List.set, Option.toList, List.cons_append, List.nil_append]
            refine fr_if_eq (tgt := 81) dX1_judgeTrees_57 (by decide) (by omega) (fun c => ?_) (fun c => ?_)
            · rw [hb] at c; exact absurd c (by decide)
            refine fr_aload_n dX1_judgeTrees_60 rfl ?_
            refine fr_iload_n dX1_judgeTrees_61 rfl ?_
            refine fr_bipush dX1_judgeTrees_62 (by decide) ?_
            refine fr_ishl (((i * 2 ^ 9 : Nat) : Int)) dX1_judgeTrees_64 (iI_sh i 9 (by omega) (by decide)) ?_
            refine fr_iload_n dX1_judgeTrees_65 rfl ?_
            refine fr_bipush dX1_judgeTrees_66 (by decide) ?_
            refine fr_ishl (((j * 2 ^ 6 : Nat) : Int)) dX1_judgeTrees_68 (iI_sh j 6 (by omega) (by decide)) ?_
            refine fr_ior (((512 * i + 64 * j : Nat) : Int)) dX1_judgeTrees_69 (by rw [iI_or, or_3 i (by omega) j (by omega)]) ?_
            refine fr_iload dX1_judgeTrees_70 rfl ?_
            refine fr_iconst dX1_judgeTrees_72 ?_
            refine fr_ishl (((k * 2 ^ 3 : Nat) : Int)) dX1_judgeTrees_73 (iI_sh k 3 (by omega) (by decide)) ?_
            refine fr_ior (((512 * i + 64 * j + 8 * k : Nat) : Int)) dX1_judgeTrees_74 (by rw [iI_or, show 512 * i + 64 * j = 64 * (8 * i + j) by omega, or_4 (8 * i + j) (by omega) k (by omega)]) ?_
            refine fr_iload dX1_judgeTrees_75 rfl ?_
            refine fr_ior (((512 * i + 64 * j + 8 * k + l : Nat) : Int)) dX1_judgeTrees_77 (by rw [iI_or, show 512 * i + 64 * j + 8 * k = 8 * (64 * i + 8 * j + k) by omega, or_1 (64 * i + 8 * j + k) (by omega) l (by omega)]) ?_
            refine fr_callV kX1_judgeTrees_78 (k1) (by omega) hg1 rfl rfl rfl ?_
            dsimp only [List.set, Option.toList, List.cons_append, List.nil_append]
            refine fr_iinc dX1_judgeTrees_81 rfl (by decide) rfl rfl ?_
            dsimp only [List.set, Option.toList, List.cons_append, List.nil_append]
            refine fr_goto (tgt := 41) dX1_judgeTrees_84 (by decide) ?_
            exact kk
          | false =>
            have hp : p1 n D (512 * i + 64 * j + 8 * k + l) = false := by
              unfold p1; rw [hx0, hx1, hx2, hx3]; simp only [decide_eq_false_iff_not]; intro z; rw [hb] at z; exact absurd z.2.2.2.2 (by decide)
            refine ⟨(), v, ⟨by omega, skip g1 (by omega) (fun q h1 h2 => by rw [show q = 512 * i + 64 * j + 8 * k + l by omega]; exact hp), g2⟩, ?_⟩
            intro r w' kk
            refine fr_iload dX1_judgeTrees_41 rfl ?_
            refine fr_iload_n dX1_judgeTrees_43 rfl ?_
            refine fr_icmp_ge (tgt := 87) dX1_judgeTrees_44 (by decide) (by omega) (by omega) (fun c => ?_) (fun c => ?_)
            · omega
            refine fr_aload_n dX1_judgeTrees_47 rfl ?_
            refine fr_iload_n dX1_judgeTrees_48 rfl ?_
            refine fr_iload_n dX1_judgeTrees_49 rfl ?_
            refine fr_iload dX1_judgeTrees_50 rfl ?_
            refine fr_iload dX1_judgeTrees_52 rfl ?_
            refine fr_callV kX1_judgeTrees_54 (hso) (by omega) hg1 rfl rfl rfl ?_
            dsimp only [List.set, Option.toList, List.cons_append, List.nil_append]
            refine fr_if_eq (tgt := 81) dX1_judgeTrees_57 (by decide) (by omega) (fun c => ?_) (fun c => ?_)
            · refine fr_iinc dX1_judgeTrees_81 rfl (by decide) rfl rfl ?_
              dsimp only [List.set, Option.toList, List.cons_append, List.nil_append]
              refine fr_goto (tgt := 41) dX1_judgeTrees_84 (by decide) ?_
              exact kk
            · rw [hb] at c; exact absurd rfl c)
        obtain ⟨_, wE, ⟨-, e1, e2⟩, hr⟩ := inner (k + 1) () v (by omega) ⟨by omega, skip g1 (by omega) (fun q h1 h2 => p1_no (fun A B C E e0 e1 e2 e3 e4 => by omega)), g2⟩
        refine ⟨(), wE, ⟨by omega, skip e1 (by omega) (fun q h1 h2 => p1_no (fun A B C E e0 e1 e2 e3 e4 => by omega)), e2⟩, ?_⟩
        intro r w' kk
        refine fr_iload dX1_judgeTrees_29 rfl ?_
        refine fr_iload_n dX1_judgeTrees_31 rfl ?_
        refine fr_icmp_ge (tgt := 93) dX1_judgeTrees_32 (by decide) (by omega) (by omega) (fun c => ?_) (fun c => ?_)
        · omega
        refine fr_iload dX1_judgeTrees_35 rfl ?_
        refine fr_iconst dX1_judgeTrees_37 ?_
        refine fr_iadd dX1_judgeTrees_38 ?_
        refine fr_istore dX1_judgeTrees_39 (by decide) rfl rfl ?_
        dsimp only [List.set, Option.toList, List.cons_append, List.nil_append]
        refine hr r w' ?_
        refine fr_iload dX1_judgeTrees_41 rfl ?_
        refine fr_iload_n dX1_judgeTrees_43 rfl ?_
        refine fr_icmp_ge (tgt := 87) dX1_judgeTrees_44 (by decide) (by omega) (by omega) (fun c => ?_) (fun c => ?_)
        · refine fr_iinc dX1_judgeTrees_87 rfl (by decide) rfl rfl ?_
          dsimp only [List.set, Option.toList, List.cons_append, List.nil_append]
          refine fr_goto (tgt := 29) dX1_judgeTrees_90 (by decide) ?_
          exact kk.wk (by simp [fw_le])
        · omega)
      obtain ⟨_, wE, ⟨-, e1, e2⟩, hr⟩ := mid2 (j + 1) () v (by omega) ⟨by omega, skip g1 (by omega) (fun q h1 h2 => p1_no (fun A B C E e0 e1 e2 e3 e4 => by omega)), g2⟩
      refine ⟨(), wE, ⟨by omega, skip e1 (by omega) (fun q h1 h2 => p1_no (fun A B C E e0 e1 e2 e3 e4 => by have a1 : A = i := (by omega); have a2 : B = j := (by omega); omega)), e2⟩, ?_⟩
      intro r w' kk
      refine fr_iload_n dX1_judgeTrees_19 rfl ?_
      refine fr_iload_n dX1_judgeTrees_20 rfl ?_
      refine fr_icmp_ge (tgt := 99) dX1_judgeTrees_21 (by decide) (by omega) (by omega) (fun c => ?_) (fun c => ?_)
      · omega
      refine fr_iload_n dX1_judgeTrees_24 rfl ?_
      refine fr_iconst dX1_judgeTrees_25 ?_
      refine fr_iadd dX1_judgeTrees_26 ?_
      refine fr_istore dX1_judgeTrees_27 (by decide) rfl rfl ?_
      dsimp only [List.set, Option.toList, List.cons_append, List.nil_append]
      refine hr r w' ?_
      refine fr_iload dX1_judgeTrees_29 rfl ?_
      refine fr_iload_n dX1_judgeTrees_31 rfl ?_
      refine fr_icmp_ge (tgt := 93) dX1_judgeTrees_32 (by decide) (by omega) (by omega) (fun c => ?_) (fun c => ?_)
      · refine fr_iinc dX1_judgeTrees_93 rfl (by decide) rfl rfl ?_
        dsimp only [List.set, Option.toList, List.cons_append, List.nil_append]
        refine fr_goto (tgt := 19) dX1_judgeTrees_96 (by decide) ?_
        exact kk.wk (by simp [fw_le])
      · omega)
    obtain ⟨_, wE, ⟨-, e1, e2⟩, hr⟩ := mid (i + 1) () v (by omega) ⟨by omega, skip g1 (by omega) (fun q h1 h2 => p1_no (fun A B C E e0 e1 e2 e3 e4 => by omega)), g2⟩
    refine ⟨(), wE, ⟨skip e1 (by omega) (fun q h1 h2 => p1_no (fun A B C E e0 e1 e2 e3 e4 => by have a1 : A = i := (by omega); omega)), e2⟩, ?_⟩
    intro r w' kk
    refine fr_iload_n dX1_judgeTrees_10 rfl ?_
    refine fr_iload_n dX1_judgeTrees_11 rfl ?_
    refine fr_icmp_ge (tgt := 105) dX1_judgeTrees_12 (by decide) (by omega) (by omega) (fun c => ?_) (fun c => ?_)
    · omega
    refine fr_iload_n dX1_judgeTrees_15 rfl ?_
    refine fr_iconst dX1_judgeTrees_16 ?_
    refine fr_iadd dX1_judgeTrees_17 ?_
    refine fr_istore_n dX1_judgeTrees_18 rfl (by decide) rfl rfl ?_
    dsimp only [List.set, Option.toList, List.cons_append, List.nil_append]
    refine hr r w' ?_
    refine fr_iload_n dX1_judgeTrees_19 rfl ?_
    refine fr_iload_n dX1_judgeTrees_20 rfl ?_
    refine fr_icmp_ge (tgt := 99) dX1_judgeTrees_21 (by decide) (by omega) (by omega) (fun c => ?_) (fun c => ?_)
    · refine fr_iinc dX1_judgeTrees_99 rfl (by decide) rfl rfl ?_
      dsimp only [List.set, Option.toList, List.cons_append, List.nil_append]
      refine fr_goto (tgt := 10) dX1_judgeTrees_102 (by decide) ?_
      exact kk.wk (by simp [fw_le])
    · omega)
  obtain ⟨_, wE, ⟨e1, e2⟩, hr⟩ := outer 0 () w (Nat.zero_le _) ⟨h, kp.rf⟩
  refine ⟨wE, ?_, skip e1 (by omega) (fun q h1 h2 => p1_no (fun A B C E e0 e1 e2 e3 e4 => by omega)), e2⟩
  refine fw_K.of (by decide) (Nat.le_of_ble_eq_true rfl) (by simp [Value.category]) (e2.1) ?_
  show fw_R _ _ 0 [some (.ref o), none, none, none, none, none] [] _ _ _
  have h1 := h.1
  have h3 := h.2.1.1
  refine fr_aload_n dX1_judgeTrees_0 rfl ?_
  refine fr_get fX1_judgeTrees_1 h1 rfl ?_
  refine fr_get fX1_judgeTrees_4 h3 rfl ?_
  refine fr_istore_n dX1_judgeTrees_7 rfl (by decide) rfl rfl ?_
  dsimp only [List.set, Option.toList, List.cons_append, List.nil_append]
  refine fr_iconst dX1_judgeTrees_8 ?_
  refine fr_istore_n dX1_judgeTrees_9 rfl (by decide) rfl rfl ?_
  dsimp only [List.set, Option.toList, List.cons_append, List.nil_append]
  refine hr _ _ ?_
  refine fr_iload_n dX1_judgeTrees_10 rfl ?_
  refine fr_iload_n dX1_judgeTrees_11 rfl ?_
  refine fr_icmp_ge (tgt := 105) dX1_judgeTrees_12 (by decide) (by omega) (by omega) (fun c => ?_) (fun c => ?_)
  · exact fr_vret dX1_judgeTrees_105 rfl rfl (rfl)
  · omega
