/-! Minors -/
def cmpL (x y : Int64) : Int := if y < x then 1 else if x = y then 0 else -1
theorem cmpL_eq (x y : Int64) : lg_cmp x y = iI (cmpL x y) := by
  unfold lg_cmp cmpL
  by_cases h : y < x
  · rw [if_pos h, if_pos h]; rfl
  · rw [if_neg h, if_neg h]; split <;> rfl
theorem cmpL_r (x y : Int64) : -1 ≤ cmpL x y ∧ cmpL x y ≤ 1 := by unfold cmpL; split; omega; split <;> omega
theorem cmpL_0 (x y : Int64) : cmpL x y = 0 ↔ x = y := by
  unfold cmpL
  split
  next h => simp; intro e; subst e; exact absurd h (by rw [Int64.lt_iff_toInt_lt]; omega)
  next h => split <;> simp_all
theorem cmpL_lt (x y : Int64) : cmpL x y < 0 ↔ x < y := by
  unfold cmpL
  by_cases h1 : y < x
  · rw [if_pos h1]; rw [Int64.lt_iff_toInt_lt] at h1 ⊢; omega
  · rw [if_neg h1]
    by_cases h2 : x = y
    · rw [if_pos h2]; subst h2; rw [Int64.lt_iff_toInt_lt]; omega
    · rw [if_neg h2]; rw [Int64.lt_iff_toInt_lt] at h1 ⊢; rw [← Int64.toInt_inj] at h2; omega
def mi (w : fw_S) (o t a fo n : Nat) (D : Nat → Nat → Int) (f : Nat → Int) : Prop := fw_g w o (.inl (3, [.ref t, .ref fo])) ∧ tb w t a n D ∧ fw_g w fo (.inr (32, .inr f))
theorem mi.ne {w : fw_S} {o t a fo n : Nat} {D : Nat → Nat → Int} {f : Nat → Int} (h : mi w o t a fo n D f) : o ≠ fo ∧ t ≠ fo ∧ a ≠ fo := by
  obtain ⟨h1, ⟨h2, ⟨g, h3, -⟩, -⟩, h4⟩ := h
  exact ⟨h1.oa h4, h2.oa h4, fun q => (by subst q; have := h3.inj h4; cases this)⟩
theorem mi.kp {w w' : fw_S} {o t a fo n : Nat} {D : Nat → Nat → Int} {f g : Nat → Int} (h : mi w o t a fo n D f) (hk : kp w w' (fun k => k = fo)) (hg : fw_g w' fo (.inr (32, .inr g))) : mi w' o t a fo n D g := ⟨hk.g h.ne.1 h.1, h.2.1.kp hk h.ne.2.1 h.ne.2.2, hg⟩
theorem c_square {d o t a fo n i j : Nat} {D : Nat → Nat → Int} {f : Nat → Int} {w : fw_S} (hd : 1 ≤ d) (h : mi w o t a fo n D f) (hD : okR n D 30) (hi : i < n) (hj : j < n) : fw_K d mX3_square [.ref o, .int (iI i), .int (iI j)] w (some (.long (lI (D i j * D i j)))) w := by
  have h1 := h.1
  have h2 := h.2.1
  have h3 := h2.1
  have hr := hD i j hi hj
  refine fw_K.of (by decide) (Nat.le_of_ble_eq_true rfl) (by simp [Value.category]) (rfl) ?_
  show fw_R _ _ 0 [some (.ref o), some (.int (iI i)), some (.int (iI j)), none, none] [] _ _ _
  refine fr_aload_n dX3_square_0 rfl ?_
  refine fr_get fX3_square_1 h1 rfl ?_
  refine fr_iload_n dX3_square_4 rfl ?_
  refine fr_iload_n dX3_square_5 rfl ?_
  refine fr_callV kX3_square_6 (c_between (d := 0) h2 hi hj) (by omega) h3 rfl rfl rfl ?_
  dsimp only [List.set, Option.toList, List.cons_append, List.nil_append]
  refine fr_i2l dX3_square_9 (by omega) ?_
  refine fr_lstore_n dX3_square_10 rfl (by decide) rfl rfl ?_
  dsimp only [List.set, Option.toList, List.cons_append, List.nil_append]
  refine fr_lload_n dX3_square_11 rfl ?_
  refine fr_lload_n dX3_square_12 rfl ?_
  refine fr_lmul dX3_square_13 ?_
  exact fr_lret dX3_square_14 rfl (rfl) (rfl)
theorem c_product {d o t a fo n r c : Nat} {D : Nat → Nat → Int} {f : Nat → Int} {w : fw_S} (hd : 2 ≤ d) (h : mi w o t a fo n D f) (hD : okR n D 30) (hr : r + 1 < n) (hc : c + 1 < n) : fw_K d mX3_product [.ref o, .int (iI r), .int (iI c)] w (some (.long (lI (gD D r c)))) w := by
  have h1 := h.1
  refine fw_K.of (by decide) (Nat.le_of_ble_eq_true rfl) (by simp [Value.category]) (rfl) ?_
  show fw_R _ _ 0 [some (.ref o), some (.int (iI r)), some (.int (iI c))] [] _ _ _
  refine fr_aload_n dX3_product_0 rfl ?_
  refine fr_iconst dX3_product_1 ?_
  refine fr_iload_n dX3_product_2 rfl ?_
  refine fr_iconst dX3_product_3 ?_
  refine fr_iadd dX3_product_4 ?_
  refine fr_callV kX3_product_5 (c_square (d := 1) (i := 0) (j := r + 1) (by omega) h hD (by omega) hr) (by omega) h1 rfl rfl rfl ?_
  dsimp only [List.set, Option.toList, List.cons_append, List.nil_append]
  refine fr_aload_n dX3_product_8 rfl ?_
  refine fr_iconst dX3_product_9 ?_
  refine fr_iload_n dX3_product_10 rfl ?_
  refine fr_iconst dX3_product_11 ?_
  refine fr_iadd dX3_product_12 ?_
  refine fr_callV kX3_product_13 (c_square (d := 1) (i := 0) (j := c + 1) (by omega) h hD (by omega) hc) (by omega) h1 rfl rfl rfl ?_
  dsimp only [List.set, Option.toList, List.cons_append, List.nil_append]
  refine fr_ladd dX3_product_16 ?_
  refine fr_aload_n dX3_product_17 rfl ?_
  refine fr_iload_n dX3_product_18 rfl ?_
  refine fr_iconst dX3_product_19 ?_
  refine fr_iadd dX3_product_20 ?_
  refine fr_iload_n dX3_product_21 rfl ?_
  refine fr_iconst dX3_product_22 ?_
  refine fr_iadd dX3_product_23 ?_
  refine fr_callV kX3_product_24 (c_square (d := 1) (i := r + 1) (j := c + 1) (by omega) h hD hr hc) (by omega) h1 rfl rfl rfl ?_
  dsimp only [List.set, Option.toList, List.cons_append, List.nil_append]
  refine fr_lsub dX3_product_27 ?_
  exact fr_lret dX3_product_28 rfl (rfl) (rfl)
theorem c_memberAt {d s k : Nat} {w : fw_S} (hd : 1 ≤ d) (hs : s < 64) (hk : 1 ≤ k) (hk2 : k ≤ popc s) (hk3 : k < 7) : fw_K d mX3_memberAt [.int (iI s), .int (iI k)] w (some (.int (iI (mrow s (k - 1))))) w := by
  refine fw_K.of (by decide) (Nat.le_of_ble_eq_true rfl) (by simp [Value.category]) (rfl) ?_
  show fw_R _ _ 0 [some (.int (iI s)), some (.int (iI k)), none, none] [] _ _ _
  refine fr_iconst dX3_memberAt_0 ?_
  refine fr_istore_n dX3_memberAt_1 rfl (by decide) rfl rfl ?_
  dsimp only [List.set, Option.toList, List.cons_append, List.nil_append]
  refine fr_iconst dX3_memberAt_2 ?_
  refine fr_istore_n dX3_memberAt_3 rfl (by decide) rfl rfl ?_
  dsimp only [List.set, Option.toList, List.cons_append, List.nil_append]
  refine up_loop (fun m => (∀ m', m' < m → s.testBit m' = true → bitsN s (m' + 1) ≠ k) → fw_R mX3_memberAt d 4 [some (.int (iI s)), some (.int (iI k)), some (.int (iI (bitsN s m))), some (.int (iI m))] [] w (some (.int (iI (mrow s (k - 1))))) w) 6 ?_ ?_ 0 (Nat.zero_le _) (fun m' hm => absurd hm (Nat.not_lt_zero m'))
  · intro hall
    obtain ⟨m, h1, h2, h3⟩ := mr_2 s hs k hk3 hk hk2
    exact absurd h3 (hall m h1 h2)
  · intro m hm ih hall
    have hb : bitsN s m ≤ m := by
      have : ∀ k, bitsN s k ≤ k := by
        intro k
        induction k with
        | zero => exact Nat.le_refl 0
        | succ k ih => unfold bitsN; omega
      exact this m
    have e1 : bitsN s (m + 1) = bitsN s m + s / 2 ^ m % 2 := rfl
    have e2 := tbit s m
    have r1 := b2_r (s.testBit m)
    refine fr_iload_n dX3_memberAt_4 rfl ?_
    refine fr_bipush dX3_memberAt_5 (by decide) ?_
    refine fr_icmp_ge (tgt := 34) dX3_memberAt_7 (by decide) (by omega) (by omega) (fun c => ?_) (fun c => ?_)
    · omega
    refine fr_iload_n dX3_memberAt_10 rfl ?_
    refine fr_iload_n dX3_memberAt_11 rfl ?_
    refine fr_callS kX3_memberAt_12 (c_holds 0 s m w (by omega) (by omega)) (by omega) rfl rfl rfl ?_
    dsimp only [List.set, Option.toList, List.cons_append, List.nil_append]
    refine fr_if_eq (tgt := 28) dX3_memberAt_15 (by decide) (by omega) (fun c2 => ?_) (fun c2 => ?_)
    · have c3 := b2_0.mp c2
      have ih := ih (fun m' hm' hb' => by
        by_cases e : m' = m
        · subst e; rw [c3] at hb'; cases hb'
        · exact hall m' (by omega) hb')
      rw [show bitsN s (m + 1) = bitsN s m by omega] at ih
      refine fr_iinc dX3_memberAt_28 rfl (by decide) rfl rfl ?_
      dsimp only [List.set, Option.toList, List.cons_append, List.nil_append]
      refine fr_goto (tgt := 4) dX3_memberAt_31 (by decide) ?_
      exact ih
    · have c3 := b2_n0.mp c2
      rw [c3] at e2
      have e3 : bitsN s (m + 1) = bitsN s m + 1 := by
        have : ((s / 2 ^ m % 2 : Nat) : Int) = 1 := e2
        omega
      refine fr_iinc dX3_memberAt_18 rfl (by decide) rfl rfl ?_
      dsimp only [List.set, Option.toList, List.cons_append, List.nil_append]
      refine fr_iload_n dX3_memberAt_21 rfl ?_
      refine fr_iload_n dX3_memberAt_22 rfl ?_
      refine fr_icmp_ne (tgt := 28) dX3_memberAt_23 (by decide) (by omega) (by omega) (fun c4 => ?_) (fun c4 => ?_)
      · have ih := ih (fun m' hm' hb' => by
          by_cases e : m' = m
          · subst e; omega
          · exact hall m' (by omega) hb')
        rw [e3] at ih
        refine fr_iinc dX3_memberAt_28 rfl (by decide) rfl rfl ?_
        dsimp only [List.set, Option.toList, List.cons_append, List.nil_append]
        refine fr_goto (tgt := 4) dX3_memberAt_31 (by decide) ?_
        exact ih
      · refine fr_iload_n dX3_memberAt_26 rfl ?_
        have h5 := mr_1 s hs m hm c3
        rw [e3, show bitsN s m + 1 - 1 = k - 1 by omega] at h5
        exact fr_iret dX3_memberAt_27 rfl (by rw [h5]) (rfl)
theorem c_expand {d o t a fo n row C : Nat} {D : Nat → Nat → Int} {f : Nat → Int} {w : fw_S} (hd : 3 ≤ d) (h : mi w o t a fo n D f) (hD : okR n D 30) (hrow : row + 1 < n) (hC : C < 2 ^ (n - 1)) : fw_K d mX3_expand [.ref o, .int (iI row), .int (iI C)] w (some (.long (lI (sumTo (fun c => sg C c * (gD D row c * f (C - 2 ^ c))) C 5)))) w := by
  have h1 := h.1
  have h2 := h.2.1
  have h3 := h2.1
  have h4 := h.2.2
  have hn := h2.2.2
  have hp := p2_half hn
  rw [sumTo_top (show n - 1 ≤ 5 by omega) hC]
  have hC32 : C < 32 := Nat.lt_of_lt_of_le hC hp.2.2
  generalize hF : (fun c => sg C c * (gD D row c * f (C - 2 ^ c))) = F
  refine fw_K.of (by decide) (Nat.le_of_ble_eq_true rfl) (by simp [Value.category]) (rfl) ?_
  show fw_R _ _ 0 [some (.ref o), some (.int (iI row)), some (.int (iI C)), none, none, none, none, none, none] [] _ _ _
  refine fr_lconst (z := 0) dX3_expand_0 (by decide) ?_
  refine fr_lstore_n dX3_expand_1 rfl (by decide) rfl rfl ?_
  dsimp only [List.set, Option.toList, List.cons_append, List.nil_append]
  refine fr_iconst dX3_expand_2 ?_
  refine fr_istore dX3_expand_3 (by decide) rfl rfl ?_
  dsimp only [List.set, Option.toList, List.cons_append, List.nil_append]
  refine up_loop (fun c => fw_R mX3_expand d 5 [some (.ref o), some (.int (iI row)), some (.int (iI C)), some (.long (lI (sumTo F C c))), none, some (.int (iI c)), none, none, none] [] w (some (.long (lI (sumTo F C (n - 1))))) w) (n - 1) ?_ ?_ 0 (Nat.zero_le _)
  · refine fr_iload dX3_expand_5 rfl ?_
    refine fr_aload_n dX3_expand_7 rfl ?_
    refine fr_get fX3_expand_8 h1 rfl ?_
    refine fr_get fX3_expand_11 h3 rfl ?_
    refine fr_iconst dX3_expand_14 ?_
    refine fr_isub dX3_expand_15 ?_
    refine fr_icmp_ge (tgt := 95) dX3_expand_16 (by decide) (by omega) (by omega) (fun c => ?_) (fun c => ?_)
    · refine fr_lload_n dX3_expand_95 rfl ?_
      exact fr_lret dX3_expand_96 rfl (rfl) (rfl)
    · omega
  · intro c hc ih
    have rb := b2_r (C.testBit c)
    rw [sumTo_s] at ih
    refine fr_iload dX3_expand_5 rfl ?_
    refine fr_aload_n dX3_expand_7 rfl ?_
    refine fr_get fX3_expand_8 h1 rfl ?_
    refine fr_get fX3_expand_11 h3 rfl ?_
    refine fr_iconst dX3_expand_14 ?_
    refine fr_isub dX3_expand_15 ?_
    refine fr_icmp_ge (tgt := 95) dX3_expand_16 (by decide) (by omega) (by omega) (fun c1 => ?_) (fun c1 => ?_)
    · omega
    refine fr_iload_n dX3_expand_19 rfl ?_
    refine fr_iload dX3_expand_20 rfl ?_
    refine fr_callS kX3_expand_22 (c_holds 0 C c w (by omega) (by omega)) (by omega) rfl rfl rfl ?_
    dsimp only [List.set, Option.toList, List.cons_append, List.nil_append]
    refine fr_if_eq (tgt := 89) dX3_expand_25 (by decide) (by omega) (fun c2 => ?_) (fun c2 => ?_)
    · rw [b2_0.mp c2, if_neg (by decide), Int.add_zero] at ih
      refine fr_iinc dX3_expand_89 rfl (by decide) rfl rfl ?_
      dsimp only [List.set, Option.toList, List.cons_append, List.nil_append]
      refine fr_goto (tgt := 5) dX3_expand_92 (by decide) ?_
      exact ih.wk (by simp [fw_le])
    · have hb := b2_n0.mp c2
      rw [hb, if_pos rfl, ← hF] at ih
      rw [hF] at ih
      have hle := tb_le hb
      have hsh := iI_shl (m := 1) c (by rw [Nat.one_mul]; omega) (by omega)
      rw [Nat.one_mul] at hsh
      have hix := ix_1 (2 ^ c) (by omega)
      have hia := ia_1 C (by omega) (2 ^ c) (by omega)
      rw [ia_2 C (by omega) c (by omega) hb] at hia
      have hlt : C - 2 ^ c < 32 := Nat.lt_of_le_of_lt (Nat.sub_le _ _) hC32
      have hshr := iI_shr (z := (C : Int)) (c + 1) (by omega) (by omega)
      have e0 : ((C : Int) / 2 ^ (c + 1)) = ((C / 2 ^ (c + 1) : Nat) : Int) := by norm_cast
      rw [e0] at hshr
      have hdl : C / 2 ^ (c + 1) < 64 := Nat.lt_of_le_of_lt (Nat.div_le_self _ _) (by omega)
      have hpc := popc_r (C / 2 ^ (c + 1))
      have hand := iI_andp (m := popc (C / 2 ^ (c + 1))) 1 (by decide) (by omega)
      generalize hC2 : C - 2 ^ c = C2 at hia hlt ih
      refine fr_aload_n dX3_expand_28 rfl ?_
      refine fr_iload_n dX3_expand_29 rfl ?_
      refine fr_iload dX3_expand_30 rfl ?_
      refine fr_callV kX3_expand_32 (c_product (d := 2) (by omega) h hD hrow (by omega)) (by omega) h1 rfl rfl rfl ?_
      dsimp only [List.set, Option.toList, List.cons_append, List.nil_append]
      refine fr_aload_n dX3_expand_35 rfl ?_
      refine fr_get fX3_expand_36 h1 rfl ?_
      refine fr_iload_n dX3_expand_39 rfl ?_
      refine fr_iconst dX3_expand_40 ?_
      refine fr_iload dX3_expand_41 rfl ?_
      refine fr_ishl (((2 ^ c : Nat) : Int)) dX3_expand_43 (hsh) ?_
      refine fr_iconst dX3_expand_44 ?_
      refine fr_ixor ((-((2 ^ c : Nat) : Int) - 1)) dX3_expand_45 (hix) ?_
      refine fr_iand ((C2 : Int)) dX3_expand_46 (hia) ?_
      refine fr_lald (C2) dX3_expand_47 h4 (by omega) (by omega) (by decide) ?_
      refine fr_lmul dX3_expand_48 ?_
      have fin : ∀ q : Bool, (q = true ↔ popc (C / 2 ^ (c + 1)) % 2 = 1) → fw_R mX3_expand d 71 [some (.ref o), some (.int (iI row)), some (.int (iI C)), some (.long (lI (sumTo F C c))), none, some (.int (iI c)), some (.long (lI (gD D row c * f C2))), none, none] [.int (iI (b2 q))] w (some (.long (lI (sumTo F C (n - 1))))) w := by
        intro q hq
        have rq := b2_r q
        refine fr_istore dX3_expand_71 (by decide) rfl rfl ?_
        dsimp only [List.set, Option.toList, List.cons_append, List.nil_append]
        refine fr_lload_n dX3_expand_73 rfl ?_
        refine fr_iload dX3_expand_74 rfl ?_
        refine fr_if_eq (tgt := 85) dX3_expand_76 (by decide) (by omega) (fun c5 => ?_) (fun c5 => ?_)
        · have e1 : F c = gD D row c * f C2 := by
            rw [← hF]; show sg C c * (gD D row c * f (C - 2 ^ c)) = _
            rw [hC2, sg, if_neg (fun z => by rw [hq.mpr z] at c5; exact absurd c5 (by decide)), Int.one_mul]
          rw [e1] at ih
          refine fr_lload dX3_expand_85 rfl ?_
          refine fr_ladd dX3_expand_87 ?_
          refine fr_lstore_n dX3_expand_88 rfl (by decide) rfl rfl ?_
          dsimp only [List.set, Option.toList, List.cons_append, List.nil_append]
          refine fr_iinc dX3_expand_89 rfl (by decide) rfl rfl ?_
          dsimp only [List.set, Option.toList, List.cons_append, List.nil_append]
          refine fr_goto (tgt := 5) dX3_expand_92 (by decide) ?_
          exact ih.wk (by simp [fw_le])
        · have e1 : F c = -(gD D row c * f C2) := by
            rw [← hF]; show sg C c * (gD D row c * f (C - 2 ^ c)) = _
            rw [hC2, sg, if_pos (hq.mp (b2_n0.mp c5)), Int.neg_one_mul]
          rw [e1] at ih
          refine fr_lload dX3_expand_79 rfl ?_
          refine fr_lneg dX3_expand_81 ?_
          refine fr_goto (tgt := 87) dX3_expand_82 (by decide) ?_
          refine fr_ladd dX3_expand_87 ?_
          refine fr_lstore_n dX3_expand_88 rfl (by decide) rfl rfl ?_
          dsimp only [List.set, Option.toList, List.cons_append, List.nil_append]
          refine fr_iinc dX3_expand_89 rfl (by decide) rfl rfl ?_
          dsimp only [List.set, Option.toList, List.cons_append, List.nil_append]
          refine fr_goto (tgt := 5) dX3_expand_92 (by decide) ?_
          exact ih.wk (by simp [fw_le])
      refine fr_lstore dX3_expand_49 (by decide) rfl rfl ?_
      dsimp only [List.set, Option.toList, List.cons_append, List.nil_append]
      refine fr_iload_n dX3_expand_51 rfl ?_
      refine fr_iload dX3_expand_52 rfl ?_
      refine fr_iconst dX3_expand_54 ?_
      refine fr_iadd dX3_expand_55 ?_
      refine fr_ishr (((C / 2 ^ (c + 1) : Nat) : Int)) dX3_expand_56 (hshr) ?_
      refine fr_callS kX3_expand_57 (c_bitCount (d := 0) hdl) (by omega) rfl rfl rfl ?_
      dsimp only [List.set, Option.toList, List.cons_append, List.nil_append]
      refine fr_iconst dX3_expand_60 ?_
      refine fr_iand (((popc (C / 2 ^ (c + 1)) % 2 ^ 1 : Nat) : Int)) dX3_expand_61 (hand) ?_
      refine fr_iconst dX3_expand_62 ?_
      refine fr_icmp_ne (tgt := 70) dX3_expand_63 (by decide) (by omega) (by omega) (fun c4 => ?_) (fun c4 => ?_)
      · refine fr_iconst dX3_expand_70 ?_
        exact fin false (by simp; omega)
      · refine fr_iconst dX3_expand_66 ?_
        refine fr_goto (tgt := 71) dX3_expand_67 (by decide) ?_
        exact fin true (by simp; omega)
