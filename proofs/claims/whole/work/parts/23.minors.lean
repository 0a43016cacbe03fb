/-! determinant, noneIsNegative, rank -/
theorem sumTo_cg {f g : Nat → Int} {C : Nat} : ∀ {m : Nat}, (∀ c, c < m → C.testBit c = true → f c = g c) → sumTo f C m = sumTo g C m
  | 0, _ => rfl
  | m + 1, h => by
    rw [sumTo_s, sumTo_s, sumTo_cg (fun c hc => h c (by omega))]
    by_cases hb : C.testBit m = true
    · rw [if_pos hb, if_pos hb, h m (by omega) hb]
    · rw [if_neg hb, if_neg hb]
theorem and_le (c r : Nat) : c - (c &&& r) ≤ c := Nat.sub_le _ _
theorem popc_pos : ∀ c : Nat, c < 64 → 1 ≤ c → 1 ≤ popc c := by decide +kernel
theorem popc_6 : ∀ c : Nat, c < 64 → popc c < 7 := by decide +kernel
theorem subself : ∀ r : Nat, r < 64 → r - (r &&& r) = 0 := by decide +kernel
theorem c_determinant {d o t a fo n rows : Nat} {D : Nat → Nat → Int} {f : Nat → Int} {w : fw_S} (hd : 4 ≤ d) (h : mi w o t a fo n D f) (hD : okR n D 30) (hr : rows < 2 ^ (n - 1)) : ∃ (w' : fw_S) (f' : Nat → Int), fw_K d mX3_determinant [.ref o, .int (iI rows)] w (some (.long (lI (dtS D rows)))) w' ∧ mi w' o t a fo n D f' ∧ kp w w' (fun k => k = fo) := by
  have hn := h.2.1.2.2
  have hp := p2_half hn
  have hr32 : rows < 32 := Nat.lt_of_lt_of_le hr hp.2.2
  have hix := ix_1 rows (by omega)
  have lp := lpE (M := mX3_determinant) (d := d) (pcH := 9) (rows + 1) (fun C _ => [some (.ref o), some (.int (iI rows)), some (.int (iI C))]) (fun C (_ : Unit) v => 1 ≤ C ∧ (∃ g, mi v o t a fo n D g ∧ ∀ c, c < C → c - (c &&& rows) = 0 → g c = DC (gD D) (mrow rows) (popc c) c) ∧ kp w v (fun k => k = fo)) (by
    intro C _ v hC ⟨hC1, ⟨g, g1, g2⟩, g3⟩
    have hia := ia_1 C (by omega) rows (by omega)
    have hle := and_le C rows
    have hg1 := g1.1
    have hg3 := g1.2.2
    have hC32 : C < 32 := by omega
    by_cases hs : C - (C &&& rows) = 0
    · have hp0 := sub_0 C hC32 rows hr32 hs
      have hp1 := popc_pos C (by omega) hC1
      have hp6 := popc_6 C (by omega)
      have hmr := mr_3 rows hr32 (popc C - 1) (by have := (phi_D rows hr32).2; omega) (by omega)
      have hrow : mrow rows (popc C - 1) + 1 < n := by
        have h1 := tb_le hmr.1
        rcases Nat.lt_or_ge (mrow rows (popc C - 1)) (n - 1) with q | q
        · omega
        · have := Nat.pow_le_pow_right (n := 2) (by decide) q
          omega
      have hCn : C < 2 ^ (n - 1) := by omega
      have hval : sumTo (fun c => sg C c * (gD D (mrow rows (popc C - 1)) c * g (C - 2 ^ c))) C 5 = DC (gD D) (mrow rows) (popc C) C := by
        obtain ⟨k, hk⟩ : ∃ k, popc C = k + 1 := ⟨popc C - 1, by omega⟩
        rw [hk, DC_s, show k + 1 - 1 = k by omega]
        apply sumTo_cg
        intro c hc hb
        have h1 := sub_1 C hC32 rows hr32 c hc hs hb
        have h2 := sub_2 C hC32 c hc hb
        have h3 := tb_le hb
        have h4 : 1 ≤ 2 ^ c := Nat.one_le_two_pow
        rw [g2 (C - 2 ^ c) (by omega) h1, show popc (C - 2 ^ c) = k by omega]
      have hex := c_expand (d := d - 1) (by omega) g1 hD hrow hCn
      rw [hval] at hex
      refine ⟨(), fw_up v fo (.inr (32, .inr (fw_u g C (DC (gD D) (mrow rows) (popc C) C)))), ⟨by omega, ⟨_, g1.kp (kp.up v fo _) (hg3.up _), fun c hc hcs => ?_⟩, g3.trans (kp.up v fo _)⟩, ?_⟩
      · by_cases e : c = C
        · subst e; rw [fw_u_self]
        · rw [fw_u_ne _ _ e]; exact g2 c (by omega) hcs
      · intro r w' kk
        refine fr_iload_n dX3_determinant_9 rfl ?_
        refine fr_iload_n dX3_determinant_10 rfl ?_
        refine fr_icmp_gt (tgt := 47) dX3_determinant_11 (by decide) (by omega) (by omega) (fun c => ?_) (fun c => ?_)
        · omega
        refine fr_iload_n dX3_determinant_14 rfl ?_
        refine fr_iload_n dX3_determinant_15 rfl ?_
        refine fr_iconst dX3_determinant_16 ?_
        refine fr_ixor ((-(rows : Int) - 1)) dX3_determinant_17 (hix) ?_
        refine fr_iand (((C - (C &&& rows) : Nat) : Int)) dX3_determinant_18 (hia) ?_
        refine fr_if_ne (tgt := 41) dX3_determinant_19 (by decide) (by omega) (fun c => ?_) (fun c => ?_)
        · omega
        refine fr_aload_n dX3_determinant_22 rfl ?_
        refine fr_get fX3_determinant_23 hg1 rfl ?_
        refine fr_iload_n dX3_determinant_26 rfl ?_
        refine fr_aload_n dX3_determinant_27 rfl ?_
        refine fr_iload_n dX3_determinant_28 rfl ?_
        refine fr_iload_n dX3_determinant_29 rfl ?_
        refine fr_callS kX3_determinant_30 (c_bitCount (d := 0) (by omega)) (by omega) rfl rfl rfl ?_
        dsimp only [List.set, Option.toList, List.cons_append, List.nil_append]
        refine fr_callS kX3_determinant_33 (c_memberAt (d := 1) (by omega) (by omega) hp1 (by omega) hp6) (by omega) rfl rfl rfl ?_
        dsimp only [List.set, Option.toList, List.cons_append, List.nil_append]
        refine fr_iload_n dX3_determinant_36 rfl ?_
        refine fr_callV kX3_determinant_37 (hex) (by omega) hg1 rfl rfl rfl ?_
        dsimp only [List.set, Option.toList, List.cons_append, List.nil_append]
        refine fr_last (C) dX3_determinant_40 hg3 (by omega) (by omega) (by decide) ?_
        refine fr_iinc dX3_determinant_41 rfl (by decide) rfl rfl ?_
        dsimp only [List.set, Option.toList, List.cons_append, List.nil_append]
        refine fr_goto (tgt := 9) dX3_determinant_44 (by decide) ?_
        exact kk
    · refine ⟨(), v, ⟨by omega, ⟨g, g1, fun c hc hcs => ?_⟩, g3⟩, ?_⟩
      · exact g2 c (by rcases Nat.lt_or_ge c C with q | q; exact q; exact absurd (by rw [show C = c by omega]; exact hcs) hs) hcs
      · intro r w' kk
        refine fr_iload_n dX3_determinant_9 rfl ?_
        refine fr_iload_n dX3_determinant_10 rfl ?_
        refine fr_icmp_gt (tgt := 47) dX3_determinant_11 (by decide) (by omega) (by omega) (fun c => ?_) (fun c => ?_)
        · omega
        refine fr_iload_n dX3_determinant_14 rfl ?_
        refine fr_iload_n dX3_determinant_15 rfl ?_
        refine fr_iconst dX3_determinant_16 ?_
        refine fr_ixor ((-(rows : Int) - 1)) dX3_determinant_17 (hix) ?_
        refine fr_iand (((C - (C &&& rows) : Nat) : Int)) dX3_determinant_18 (hia) ?_
        refine fr_if_ne (tgt := 41) dX3_determinant_19 (by decide) (by omega) (fun c => ?_) (fun c => ?_)
        · refine fr_iinc dX3_determinant_41 rfl (by decide) rfl rfl ?_
          dsimp only [List.set, Option.toList, List.cons_append, List.nil_append]
          refine fr_goto (tgt := 9) dX3_determinant_44 (by decide) ?_
          exact kk
        · omega)
  have h3 := h.2.2
  have hb := h.kp (kp.up w fo (.inr (32, .inr (fw_u f 0 1)))) (h3.up _)
  have h1 := h.1
  rcases Nat.eq_zero_or_pos rows with h0 | h0
  · subst h0
    refine ⟨_, _, ?_, hb, kp.up _ _ _⟩
    have hb3 := hb.2.2
    refine fw_K.of (by decide) (Nat.le_of_ble_eq_true rfl) (by simp [Value.category]) (rfl) ?_
    show fw_R _ _ 0 [some (.ref o), some (.int (iI ((0 : Nat) : Int))), none] [] _ _ _
    refine fr_aload_n dX3_determinant_0 rfl ?_
    refine fr_get fX3_determinant_1 h1 rfl ?_
    refine fr_iconst dX3_determinant_4 ?_
    refine fr_lconst (z := 1) dX3_determinant_5 (by decide) ?_
    refine fr_last (0) dX3_determinant_6 h3 (by omega) (by omega) (by decide) ?_
    refine fr_iconst dX3_determinant_7 ?_
    refine fr_istore_n dX3_determinant_8 rfl (by decide) rfl rfl ?_
    dsimp only [List.set, Option.toList, List.cons_append, List.nil_append]
    refine fr_iload_n dX3_determinant_9 rfl ?_
    refine fr_iload_n dX3_determinant_10 rfl ?_
    have hb1 := hb.1
    refine fr_icmp_gt (tgt := 47) dX3_determinant_11 (by decide) (by omega) (by omega) (fun c => ?_) (fun c => ?_)
    · refine fr_aload_n dX3_determinant_47 rfl ?_
      refine fr_get fX3_determinant_48 hb1 rfl ?_
      refine fr_iload_n dX3_determinant_51 rfl ?_
      refine fr_lald (0) dX3_determinant_52 hb3 (by omega) (by omega) (by decide) ?_
      exact fr_lret dX3_determinant_53 rfl (by rw [fw_u_self]; rfl) rfl
    · omega
  · obtain ⟨_, wE, ⟨-, ⟨g, e1, e2⟩, e3⟩, hr⟩ := lp 1 () (fw_up w fo (.inr (32, .inr (fw_u f 0 1)))) (by omega) ⟨Nat.le_refl 1, ⟨_, hb, fun c hc _ => by rw [show c = 0 by omega, fw_u_self]; rfl⟩, kp.up _ _ _⟩
    refine ⟨wE, g, ?_, e1, e3⟩
    have e11 := e1.1
    have e13 := e1.2.2
    refine fw_K.of (by decide) (Nat.le_of_ble_eq_true rfl) (by simp [Value.category]) (e3.1) ?_
    show fw_R _ _ 0 [some (.ref o), some (.int (iI rows)), none] [] _ _ _
    refine fr_aload_n dX3_determinant_0 rfl ?_
    refine fr_get fX3_determinant_1 h1 rfl ?_
    refine fr_iconst dX3_determinant_4 ?_
    refine fr_lconst (z := 1) dX3_determinant_5 (by decide) ?_
    refine fr_last (0) dX3_determinant_6 h3 (by omega) (by omega) (by decide) ?_
    refine fr_iconst dX3_determinant_7 ?_
    refine fr_istore_n dX3_determinant_8 rfl (by decide) rfl rfl ?_
    dsimp only [List.set, Option.toList, List.cons_append, List.nil_append]
    refine hr _ _ ?_
    refine fr_iload_n dX3_determinant_9 rfl ?_
    refine fr_iload_n dX3_determinant_10 rfl ?_
    refine fr_icmp_gt (tgt := 47) dX3_determinant_11 (by decide) (by omega) (by omega) (fun c => ?_) (fun c => ?_)
    · refine fr_aload_n dX3_determinant_47 rfl ?_
      refine fr_get fX3_determinant_48 e11 rfl ?_
      refine fr_iload_n dX3_determinant_51 rfl ?_
      refine fr_lald (rows) dX3_determinant_52 e13 (by omega) (by omega) (by decide) ?_
      exact fr_lret dX3_determinant_53 rfl (by rw [e2 rows (by omega) (subself rows (by omega))]; rfl) rfl
    · omega
theorem c_noneIsNegative {d o t a fo n : Nat} {D : Nat → Nat → Int} {f : Nat → Int} {w : fw_S} (hd : 5 ≤ d) (h : mi w o t a fo n D f) (hD : okR n D 30) (b : Bool) (hb : b = true ↔ ∀ s, 1 ≤ s → s < 2 ^ (n - 1) → ¬ lI (dtS D s) < lI 0) : ∃ (w' : fw_S) (f' : Nat → Int), fw_K d mX3_noneIsNegative [.ref o] w (some (.int (iI (b2 b)))) w' ∧ mi w' o t a fo n D f' ∧ kp w w' (fun k => k = fo) := by
  have hn := h.2.1.2.2
  have hp := p2_half hn
  have hsh := iI_shl (m := 1) (n - 1) (by rw [Nat.one_mul]; omega) (by omega)
  rw [Nat.one_mul] at hsh
  rw [show ((n - 1 : Nat) : Int) = (n : Int) - 1 by omega] at hsh
  have lp := up_loop (fun s => 1 ≤ s → ∀ (v : fw_S) (g : Nat → Int), mi v o t a fo n D g → (∀ s', 1 ≤ s' → s' < s → ¬ lI (dtS D s') < lI 0) → ∃ (w' : fw_S) (f' : Nat → Int), mi w' o t a fo n D f' ∧ kp v w' (fun k => k = fo) ∧ fw_R mX3_noneIsNegative d 2 [some (.ref o), some (.int (iI s))] [] v (some (.int (iI (b2 b)))) w') (2 ^ (n - 1)) ?_ ?_ 1 (by omega) (Nat.le_refl 1) w f h (fun s' h1 h2 => by omega)
  · obtain ⟨w', f', k1, k2, k3⟩ := lp
    refine ⟨w', f', ?_, k1, k2⟩
    refine fw_K.of (by decide) (Nat.le_of_ble_eq_true rfl) (by simp [Value.category]) (k2.1) ?_
    show fw_R _ _ 0 [some (.ref o), none] [] _ _ _
    refine fr_iconst dX3_noneIsNegative_0 ?_
    refine fr_istore_n dX3_noneIsNegative_1 rfl (by decide) rfl rfl ?_
    dsimp only [List.set, Option.toList, List.cons_append, List.nil_append]
    exact k3
  · intro hs1 v g g1 hall
    have g11 := g1.1
    have g12 := g1.2.1.1
    refine ⟨v, g, g1, kp.rf, ?_⟩
    refine fr_iload_n dX3_noneIsNegative_2 rfl ?_
    refine fr_iconst dX3_noneIsNegative_3 ?_
    refine fr_aload_n dX3_noneIsNegative_4 rfl ?_
    refine fr_get fX3_noneIsNegative_5 g11 rfl ?_
    refine fr_get fX3_noneIsNegative_8 g12 rfl ?_
    refine fr_iconst dX3_noneIsNegative_11 ?_
    refine fr_isub dX3_noneIsNegative_12 ?_
    refine fr_ishl (((2 ^ (n - 1) : Nat) : Int)) dX3_noneIsNegative_13 (hsh) ?_
    generalize 2 ^ (n - 1) = P at *
    refine fr_icmp_ge (tgt := 35) dX3_noneIsNegative_14 (by decide) (by omega) (by omega) (fun c => ?_) (fun c => ?_)
    · have : b = true := hb.mpr (fun s h1 h2 => hall s h1 h2)
      subst this
      refine fr_iconst dX3_noneIsNegative_35 ?_
      exact fr_zret dX3_noneIsNegative_36 rfl (by decide) (rfl) (rfl)
    · omega
  · intro s hs ih hs1 v g g1 hall
    have g11 := g1.1
    have g12 := g1.2.1.1
    obtain ⟨v1, g', k1, k2, k3⟩ := c_determinant (d := d - 1) (by omega) g1 hD hs
    have hcr := cmpL_r (lI (dtS D s)) (lI 0)
    have hcl := cmpL_lt (lI (dtS D s)) (lI 0)
    by_cases hneg : lI (dtS D s) < lI 0
    · refine ⟨v1, g', k2, k3, ?_⟩
      refine fr_iload_n dX3_noneIsNegative_2 rfl ?_
      refine fr_iconst dX3_noneIsNegative_3 ?_
      refine fr_aload_n dX3_noneIsNegative_4 rfl ?_
      refine fr_get fX3_noneIsNegative_5 g11 rfl ?_
      refine fr_get fX3_noneIsNegative_8 g12 rfl ?_
      refine fr_iconst dX3_noneIsNegative_11 ?_
      refine fr_isub dX3_noneIsNegative_12 ?_
      refine fr_ishl (((2 ^ (n - 1) : Nat) : Int)) dX3_noneIsNegative_13 (hsh) ?_
      generalize 2 ^ (n - 1) = P at *
      refine fr_icmp_ge (tgt := 35) dX3_noneIsNegative_14 (by decide) (by omega) (by omega) (fun c => ?_) (fun c => ?_)
      · omega
      refine fr_aload_n dX3_noneIsNegative_17 rfl ?_
      refine fr_iload_n dX3_noneIsNegative_18 rfl ?_
      refine fr_callV kX3_noneIsNegative_19 (k1) (by omega) g11 rfl rfl rfl ?_
      dsimp only [List.set, Option.toList, List.cons_append, List.nil_append]
      refine fr_lconst (z := 0) dX3_noneIsNegative_22 (by decide) ?_
      refine fr_lcmp dX3_noneIsNegative_23 ?_
      rw [cmpL_eq]
      refine fr_if_ge (tgt := 29) dX3_noneIsNegative_24 (by decide) (by omega) (fun c2 => ?_) (fun c2 => ?_)
      · exact absurd (hcl.mpr hneg) (by omega)
      · have : b = false := by
          cases hbb : b with
          | false => rfl
          | true => exact absurd hneg (hb.mp hbb s hs1 hs)
        subst this
        refine fr_iconst dX3_noneIsNegative_27 ?_
        exact fr_zret dX3_noneIsNegative_28 rfl (by decide) (rfl) (rfl)
    · obtain ⟨w', f', j1, j2, j3⟩ := ih (by omega) v1 g' k2 (fun s' h1 h2 => by
        by_cases e : s' = s
        · subst e; exact hneg
        · exact hall s' h1 (by omega))
      refine ⟨w', f', j1, k3.trans j2, ?_⟩
      refine fr_iload_n dX3_noneIsNegative_2 rfl ?_
      refine fr_iconst dX3_noneIsNegative_3 ?_
      refine fr_aload_n dX3_noneIsNegative_4 rfl ?_
      refine fr_get fX3_noneIsNegative_5 g11 rfl ?_
      refine fr_get fX3_noneIsNegative_8 g12 rfl ?_
      refine fr_iconst dX3_noneIsNegative_11 ?_
      refine fr_isub dX3_noneIsNegative_12 ?_
      refine fr_ishl (((2 ^ (n - 1) : Nat) : Int)) dX3_noneIsNegative_13 (hsh) ?_
      generalize 2 ^ (n - 1) = P at *
      refine fr_icmp_ge (tgt := 35) dX3_noneIsNegative_14 (by decide) (by omega) (by omega) (fun c => ?_) (fun c => ?_)
      · omega
      refine fr_aload_n dX3_noneIsNegative_17 rfl ?_
      refine fr_iload_n dX3_noneIsNegative_18 rfl ?_
      refine fr_callV kX3_noneIsNegative_19 (k1) (by omega) g11 rfl rfl rfl ?_
      dsimp only [List.set, Option.toList, List.cons_append, List.nil_append]
      refine fr_lconst (z := 0) dX3_noneIsNegative_22 (by decide) ?_
      refine fr_lcmp dX3_noneIsNegative_23 ?_
      rw [cmpL_eq]
      refine fr_if_ge (tgt := 29) dX3_noneIsNegative_24 (by decide) (by omega) (fun c2 => ?_) (fun c2 => ?_)
      · refine fr_iinc dX3_noneIsNegative_29 rfl (by decide) rfl rfl ?_
        dsimp only [List.set, Option.toList, List.cons_append, List.nil_append]
        refine fr_goto (tgt := 2) dX3_noneIsNegative_32 (by decide) ?_
        exact j3
      · exact absurd (hcl.mp c2) hneg
/-- the most members of a set of 1 .. m whose determinant is not 0 -/
def rkS (D : Nat → Nat → Int) : Nat → Nat
  | 0 => 0
  | m + 1 => if lI (dtS D (m + 1)) ≠ lI 0 then max (rkS D m) (popc (m + 1)) else rkS D m
theorem rkS_s (D : Nat → Nat → Int) (m : Nat) : rkS D (m + 1) = if lI (dtS D (m + 1)) ≠ lI 0 then max (rkS D m) (popc (m + 1)) else rkS D m := rfl
theorem rkS_r (D : Nat → Nat → Int) : ∀ m, rkS D m ≤ 10
  | 0 => Nat.zero_le _
  | m + 1 => by
    have := rkS_r D m
    have := popc_r (m + 1)
    rw [rkS_s]; split <;> omega
theorem c_rank {d o t a fo n : Nat} {D : Nat → Nat → Int} {f : Nat → Int} {w : fw_S} (hd : 5 ≤ d) (h : mi w o t a fo n D f) (hD : okR n D 30) : ∃ (w' : fw_S) (f' : Nat → Int), fw_K d mX3_rank [.ref o] w (some (.int (iI (rkS D (2 ^ (n - 1) - 1))))) w' ∧ mi w' o t a fo n D f' ∧ kp w w' (fun k => k = fo) := by
  have hn := h.2.1.2.2
  have hp := p2_half hn
  have hsh := iI_shl (m := 1) (n - 1) (by rw [Nat.one_mul]; omega) (by omega)
  rw [Nat.one_mul] at hsh
  rw [show ((n - 1 : Nat) : Int) = (n : Int) - 1 by omega] at hsh
  have lp := lpE (M := mX3_rank) (d := d) (pcH := 4) (2 ^ (n - 1) - 1) (fun s _ => [some (.ref o), some (.int (iI (rkS D s))), some (.int (iI ((s : Int) + 1)))]) (fun s (_ : Unit) v => (∃ g, mi v o t a fo n D g) ∧ kp w v (fun k => k = fo)) (by
    intro s _ v hs ⟨⟨g, g1⟩, g2⟩
    have g11 := g1.1
    have g12 := g1.2.1.1
    obtain ⟨v1, g', k1, k2, k3⟩ := c_determinant (d := d - 1) (rows := s + 1) (by omega) g1 hD (by omega)
    rw [show ((s + 1 : Nat) : Int) = (s : Int) + 1 by omega] at k1
    have hcr := cmpL_r (lI (dtS D (s + 1))) (lI 0)
    have hcl := cmpL_0 (lI (dtS D (s + 1))) (lI 0)
    have hrk := rkS_r D s
    have hpc := popc_r (s + 1)
    have hbc := c_bitCount (d := 0) (z := s + 1) (w := v1) (by omega)
    rw [show ((s + 1 : Nat) : Int) = (s : Int) + 1 by omega] at hbc
    refine ⟨(), v1, ⟨⟨g', k2⟩, g2.trans k3⟩, ?_⟩
    intro r w' kk
    rw [rkS_s] at kk
    rw [show ((s + 1 : Nat) : Int) = (s : Int) + 1 by omega] at kk
    refine fr_iload_n dX3_rank_4 rfl ?_
    refine fr_iconst dX3_rank_5 ?_
    refine fr_aload_n dX3_rank_6 rfl ?_
    refine fr_get fX3_rank_7 g11 rfl ?_
    refine fr_get fX3_rank_10 g12 rfl ?_
    refine fr_iconst dX3_rank_13 ?_
    refine fr_isub dX3_rank_14 ?_
    refine fr_ishl (((2 ^ (n - 1) : Nat) : Int)) dX3_rank_15 (hsh) ?_
    generalize 2 ^ (n - 1) = P at *
    refine fr_icmp_ge (tgt := 44) dX3_rank_16 (by decide) (by omega) (by omega) (fun c => ?_) (fun c => ?_)
    · omega
    refine fr_aload_n dX3_rank_19 rfl ?_
    refine fr_iload_n dX3_rank_20 rfl ?_
    refine fr_callV kX3_rank_21 (k1) (by omega) g11 rfl rfl rfl ?_
    dsimp only [List.set, Option.toList, List.cons_append, List.nil_append]
    refine fr_lconst (z := 0) dX3_rank_24 (by decide) ?_
    refine fr_lcmp dX3_rank_25 ?_
    rw [cmpL_eq]
    refine fr_if_eq (tgt := 38) dX3_rank_26 (by decide) (by omega) (fun c2 => ?_) (fun c2 => ?_)
    · rw [if_neg (fun z => z (hcl.mp c2))] at kk
      refine fr_iinc dX3_rank_38 rfl (by decide) rfl rfl ?_
      dsimp only [List.set, Option.toList, List.cons_append, List.nil_append]
      refine fr_goto (tgt := 4) dX3_rank_41 (by decide) ?_
      exact kk
    · rw [if_pos (fun z => c2 (hcl.mpr z))] at kk
      rw [show ((max (rkS D s) (popc (s + 1)) : Nat) : Int) = max (rkS D s : Int) (popc (s + 1) : Int) by omega] at kk
      refine fr_iload_n dX3_rank_29 rfl ?_
      refine fr_iload_n dX3_rank_30 rfl ?_
      refine fr_callS kX3_rank_31 (hbc) (by omega) rfl rfl rfl ?_
      dsimp only [List.set, Option.toList, List.cons_append, List.nil_append]
      refine fr_max kX3_rank_34 (by omega) (by omega) rfl (by omega) ?_
      refine fr_istore_n dX3_rank_37 rfl (by decide) rfl rfl ?_
      dsimp only [List.set, Option.toList, List.cons_append, List.nil_append]
      refine fr_iinc dX3_rank_38 rfl (by decide) rfl rfl ?_
      dsimp only [List.set, Option.toList, List.cons_append, List.nil_append]
      refine fr_goto (tgt := 4) dX3_rank_41 (by decide) ?_
      exact kk)
  obtain ⟨_, wE, ⟨⟨g, e1⟩, e2⟩, hr⟩ := lp 0 () w (Nat.zero_le _) ⟨⟨f, h⟩, kp.rf⟩
  refine ⟨wE, g, ?_, e1, e2⟩
  have e11 := e1.1
  have e12 := e1.2.1.1
  have hrk := rkS_r D (2 ^ (n - 1) - 1)
  refine fw_K.of (by decide) (Nat.le_of_ble_eq_true rfl) (by simp [Value.category]) (e2.1) ?_
  show fw_R _ _ 0 [some (.ref o), none, none] [] _ _ _
  refine fr_iconst dX3_rank_0 ?_
  refine fr_istore_n dX3_rank_1 rfl (by decide) rfl rfl ?_
  dsimp only [List.set, Option.toList, List.cons_append, List.nil_append]
  refine fr_iconst dX3_rank_2 ?_
  refine fr_istore_n dX3_rank_3 rfl (by decide) rfl rfl ?_
  dsimp only [List.set, Option.toList, List.cons_append, List.nil_append]
  refine hr _ _ ?_
  refine fr_iload_n dX3_rank_4 rfl ?_
  refine fr_iconst dX3_rank_5 ?_
  refine fr_aload_n dX3_rank_6 rfl ?_
  refine fr_get fX3_rank_7 e11 rfl ?_
  refine fr_get fX3_rank_10 e12 rfl ?_
  refine fr_iconst dX3_rank_13 ?_
  refine fr_isub dX3_rank_14 ?_
  refine fr_ishl (((2 ^ (n - 1) : Nat) : Int)) dX3_rank_15 (hsh) ?_
  generalize 2 ^ (n - 1) = P at *
  refine fr_icmp_ge (tgt := 44) dX3_rank_16 (by decide) (by omega) (by omega) (fun c => ?_) (fun c => ?_)
  · refine fr_iload_n dX3_rank_44 rfl ?_
    exact fr_iret dX3_rank_45 rfl (rfl) (rfl)
  · omega
