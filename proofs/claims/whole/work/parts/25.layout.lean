/-! Layout: at the cells 13 (itself), 1, 2 (the table), 14 (places) -/
def LA (w : fw_S) (n : Nat) (D : Nat → Nat → Int) (f : Nat → Int) (A B : Nat) (bo : Int) (ba bb : Nat) : Prop := fw_g w 13 (.inl (2, [.ref 1, .ref 14, .int (iI A), .int (iI B), .int (iI bo), .int (iI ba), .int (iI bb)])) ∧ tb w 1 2 n D ∧ fw_g w 14 (.inr (6, .inl f))
theorem LA.up {w : fw_S} {n : Nat} {D : Nat → Nat → Int} {f : Nat → Int} {A B : Nat} {bo : Int} {ba bb : Nat} (h : LA w n D f A B bo ba bb) (A' B' : Nat) (bo' : Int) (ba' bb' : Nat) : LA (fw_up w 13 (.inl (2, [.ref 1, .ref 14, .int (iI A'), .int (iI B'), .int (iI bo'), .int (iI ba'), .int (iI bb')]))) n D f A' B' bo' ba' bb' := ⟨h.1.up _, h.2.1.kp (kp.up w 13 _) (by decide) (by decide), h.2.2.ne _ (by decide)⟩
theorem p3_le {t : Nat} (h : t ≤ 9) : 2 ^ (3 * t) ≤ 134217728 := Nat.pow_le_pow_right (n := 2) (j := 27) (by decide) (by omega)
theorem c_pointAt {d o t : Nat} {w : fw_S} (ho : o ≤ 2147483647) (ht : t ≤ 9) : fw_K d mX2_pointAt [.int (iI o), .int (iI t)] w (some (.int (iI (pAt o t)))) w := by
  have hshr := iI_shr (z := (o : Int)) (3 * t) (by omega) (by omega)
  have e0 : ((o : Int) / 2 ^ (3 * t)) = ((o / 2 ^ (3 * t) : Nat) : Int) := by norm_cast
  rw [e0] at hshr
  have hle := Nat.div_le_self o (2 ^ (3 * t))
  have hand := iI_andp (m := o / 2 ^ (3 * t)) 3 (by decide) (by omega)
  refine fw_K.of (by decide) (Nat.le_of_ble_eq_true rfl) (by simp [Value.category]) (rfl) ?_
  show fw_R _ _ 0 [some (.int (iI o)), some (.int (iI t))] [] _ _ _
  refine fr_iload_n dX2_pointAt_0 rfl ?_
  refine fr_iconst dX2_pointAt_1 ?_
  refine fr_iload_n dX2_pointAt_2 rfl ?_
  refine fr_imul dX2_pointAt_3 ?_
  rw [show (3 : Int) * (t : Int) = ((3 * t : Nat) : Int) by omega]
  refine fr_ishr (((o / 2 ^ (3 * t) : Nat) : Int)) dX2_pointAt_4 (hshr) ?_
  refine fr_bipush dX2_pointAt_5 (by decide) ?_
  refine fr_iand ((pAt o t : Int)) dX2_pointAt_7 (hand) ?_
  exact fr_iret dX2_pointAt_8 rfl (rfl) (rfl)
theorem c_isOrder {d n : Nat} {D : Nat → Nat → Int} {w : fw_S} {es : List Value} (hd : 1 ≤ d) (h1 : fw_g w 13 (.inl (2, .ref 1 :: es))) (h : tb w 1 2 n D) {order : Int} (hr : -2147483648 ≤ order ∧ order ≤ 2147483647) (ob : Bool) (hob : ob = true ↔ (0 ≤ order ∧ vOrd n order.toNat)) : fw_K d mX2_isOrder [.ref 13, .int (iI order)] w (some (.int (iI (b2 ob)))) w := by
  have h2 := h.1
  have hn := h.2.2
  have hp := p2_le hn.2
  have hp1 : 1 ≤ 2 ^ n := Nat.one_le_two_pow
  have hp3 := p3_le (t := n) (by omega)
  have hno : ¬ (0 ≤ order ∧ vOrd n order.toNat) → ob = false := fun z => by
    cases hb : ob with
    | false => rfl
    | true => exact absurd (hob.mp hb) z
  refine fw_K.of (by decide) (Nat.le_of_ble_eq_true rfl) (by simp [Value.category]) (rfl) ?_
  show fw_R _ _ 0 [some (.ref 13), some (.int (iI order)), none, none] [] _ _ _
  refine fr_iload_n dX2_isOrder_0 rfl ?_
  refine fr_if_lt (tgt := 19) dX2_isOrder_1 (by decide) (by omega) (fun c => ?_) (fun c => ?_)
  · rw [hno (by omega)]
    refine fr_iconst dX2_isOrder_19 ?_
    exact fr_zret dX2_isOrder_20 rfl (by decide) (rfl) (rfl)
  obtain ⟨o, rfl⟩ := Int.eq_ofNat_of_zero_le c
  rw [Int.toNat_natCast] at hob hno
  have hsh3 := iI_shl (m := 1) (3 * n) (by rw [Nat.one_mul]; omega) (by omega)
  rw [Nat.one_mul] at hsh3
  have hshn := iI_shl (m := 1) n (by rw [Nat.one_mul]; omega) (by omega)
  rw [Nat.one_mul] at hshn
  refine fr_iload_n dX2_isOrder_4 rfl ?_
  refine fr_iconst dX2_isOrder_5 ?_
  refine fr_iconst dX2_isOrder_6 ?_
  refine fr_aload_n dX2_isOrder_7 rfl ?_
  refine fr_get fX2_isOrder_8 h1 rfl ?_
  refine fr_get fX2_isOrder_11 h2 rfl ?_
  refine fr_imul dX2_isOrder_14 ?_
  rw [show (3 : Int) * (n : Int) = ((3 * n : Nat) : Int) by omega]
  refine fr_ishl ((2 ^ (3 * n) : Nat) : Int) dX2_isOrder_15 hsh3 ?_
  unfold vOrd at hob hno
  generalize 2 ^ (3 * n) = P3 at hp3 hob hno ⊢
  refine fr_icmp_lt (tgt := 21) dX2_isOrder_16 (by decide) (by omega) (by omega) (fun c2 => ?_) (fun c2 => ?_)
  rotate_left
  · rw [hno (by omega)]
    refine fr_iconst dX2_isOrder_19 ?_
    exact fr_zret dX2_isOrder_20 rfl (by decide) (rfl) (rfl)
  refine fr_iconst dX2_isOrder_21 ?_
  refine fr_istore_n dX2_isOrder_22 rfl (by decide) rfl rfl ?_
  dsimp only [List.set, Option.toList, List.cons_append, List.nil_append]
  refine fr_iconst dX2_isOrder_23 ?_
  refine fr_istore_n dX2_isOrder_24 rfl (by decide) rfl rfl ?_
  dsimp only [List.set, Option.toList, List.cons_append, List.nil_append]
  refine up_loop (fun t => fw_R mX2_isOrder d 25 [some (.ref 13), some (.int (iI o)), some (.int (iI (msk o t))), some (.int (iI t))] [] w (some (.int (iI (b2 ob)))) w) n ?_ ?_ 0 (Nat.zero_le _)
  · have hm := msk_lt o n
    refine fr_iload_n dX2_isOrder_25 rfl ?_
    refine fr_aload_n dX2_isOrder_26 rfl ?_
    refine fr_get fX2_isOrder_27 h1 rfl ?_
    refine fr_get fX2_isOrder_30 h2 rfl ?_
    refine fr_icmp_ge (tgt := 52) dX2_isOrder_33 (by decide) (by omega) (by omega) (fun c3 => ?_) (fun c3 => ?_)
    · refine fr_iload_n dX2_isOrder_52 rfl ?_
      refine fr_iconst dX2_isOrder_53 ?_
      refine fr_aload_n dX2_isOrder_54 rfl ?_
      refine fr_get fX2_isOrder_55 h1 rfl ?_
      refine fr_get fX2_isOrder_58 h2 rfl ?_
      refine fr_ishl (((2 ^ n : Nat) : Int)) dX2_isOrder_61 (hshn) ?_
      refine fr_iconst dX2_isOrder_62 ?_
      refine fr_isub dX2_isOrder_63 ?_
      generalize 2 ^ n = P at *
      refine fr_icmp_ne (tgt := 71) dX2_isOrder_64 (by decide) (by omega) (by omega) (fun c4 => ?_) (fun c4 => ?_)
      · rw [hno (fun z => c4 (by have := z.2.2; omega))]
        refine fr_iconst dX2_isOrder_71 ?_
        exact fr_zret dX2_isOrder_72 rfl (by decide) (rfl) (rfl)
      · rw [hob.mpr ⟨by omega, by omega, by omega⟩]
        refine fr_iconst dX2_isOrder_67 ?_
        refine fr_goto (tgt := 72) dX2_isOrder_68 (by decide) ?_
        exact fr_zret dX2_isOrder_72 rfl (by decide) (rfl) (rfl)
    · omega
  · intro t ht ih
    have hpa := pAt_lt o t
    have hs := iI_shl (m := 1) (pAt o t) (by rw [Nat.one_mul]; have : 2 ^ pAt o t ≤ 2 ^ 8 := Nat.pow_le_pow_right (by decide) (by omega); omega) (by omega)
    rw [Nat.one_mul] at hs
    rw [msk_s] at ih
    refine fr_iload_n dX2_isOrder_25 rfl ?_
    refine fr_aload_n dX2_isOrder_26 rfl ?_
    refine fr_get fX2_isOrder_27 h1 rfl ?_
    refine fr_get fX2_isOrder_30 h2 rfl ?_
    refine fr_icmp_ge (tgt := 52) dX2_isOrder_33 (by decide) (by omega) (by omega) (fun c3 => ?_) (fun c3 => ?_)
    · omega
    refine fr_iload_n dX2_isOrder_36 rfl ?_
    refine fr_iconst dX2_isOrder_37 ?_
    refine fr_iload_n dX2_isOrder_38 rfl ?_
    refine fr_iload_n dX2_isOrder_39 rfl ?_
    refine fr_callS kX2_isOrder_40 (c_pointAt (d := 0) (by omega) (by omega)) (by omega) rfl rfl rfl ?_
    dsimp only [List.set, Option.toList, List.cons_append, List.nil_append]
    refine fr_ishl (((2 ^ pAt o t : Nat) : Int)) dX2_isOrder_43 (hs) ?_
    refine fr_ior (((msk o t ||| 2 ^ pAt o t : Nat) : Int)) dX2_isOrder_44 (iI_or _ _) ?_
    refine fr_istore_n dX2_isOrder_45 rfl (by decide) rfl rfl ?_
    dsimp only [List.set, Option.toList, List.cons_append, List.nil_append]
    refine fr_iinc dX2_isOrder_46 rfl (by decide) rfl rfl ?_
    dsimp only [List.set, Option.toList, List.cons_append, List.nil_append]
    refine fr_goto (tgt := 25) dX2_isOrder_49 (by decide) ?_
    exact ih
theorem c_leastPlace {d n o t p A B ba bb : Nat} {bo : Int} {D : Nat → Nat → Int} {f : Nat → Int} {w : fw_S} (hd : 2 ≤ d) (h : LA w n D f A B bo ba bb) (hD : okR n D 30) (ho : o < 2 ^ (3 * n)) (hon : ∀ e, e < n → pAt o e < n) (ht : t < n) (hp : p < n) (hf : ∀ e, e < t → 0 ≤ f (pAt o e) ∧ f (pAt o e) ≤ 200) : fw_K d mX2_leastPlace [.ref 13, .int (iI o), .int (iI t), .int (iI p)] w (some (.int (iI (mxP D o f p t)))) w := by
  have h1 := h.1
  have h2 := h.2.1
  have h3 := h2.1
  have h4 := h.2.2
  have hn := h2.2.2
  have hp3 := p3_le (t := n) (by omega)
  refine fw_K.of (by decide) (Nat.le_of_ble_eq_true rfl) (by simp [Value.category]) (rfl) ?_
  show fw_R _ _ 0 [some (.ref 13), some (.int (iI o)), some (.int (iI t)), some (.int (iI p)), none, none, none] [] _ _ _
  refine fr_iconst dX2_leastPlace_0 ?_
  refine fr_istore dX2_leastPlace_1 (by decide) rfl rfl ?_
  dsimp only [List.set, Option.toList, List.cons_append, List.nil_append]
  refine fr_iconst dX2_leastPlace_3 ?_
  refine fr_istore dX2_leastPlace_4 (by decide) rfl rfl ?_
  dsimp only [List.set, Option.toList, List.cons_append, List.nil_append]
  refine up_loop (fun e => fw_R mX2_leastPlace d 6 [some (.ref 13), some (.int (iI o)), some (.int (iI t)), some (.int (iI p)), some (.int (iI (mxP D o f p e))), some (.int (iI e)), none] [] w (some (.int (iI (mxP D o f p t)))) w) t ?_ ?_ 0 (Nat.zero_le _)
  · refine fr_iload dX2_leastPlace_6 rfl ?_
    refine fr_iload_n dX2_leastPlace_8 rfl ?_
    refine fr_icmp_ge (tgt := 63) dX2_leastPlace_9 (by decide) (by omega) (by omega) (fun c => ?_) (fun c => ?_)
    · refine fr_iload dX2_leastPlace_63 rfl ?_
      exact fr_iret dX2_leastPlace_65 rfl (rfl) (rfl)
    · omega
  · intro e he ih
    have hpe := hon e (by omega)
    have hfe := hf e he
    have hdr := hD (pAt o e) p hpe hp
    have hmr := mxP_r hD (o := o) (g := f) (B := 200) hp (by omega) (t := e) (fun e' he' => ⟨hon e' (by omega), hf e' (by omega)⟩)
    have hhp := c_hasPoint (d := 0) h2 (i := (pAt o e : Int)) (by omega)
    rw [show decide (0 ≤ (pAt o e : Int) ∧ (pAt o e : Int) < (n : Int)) = true by simp only [decide_eq_true_eq]; omega] at hhp
    rw [mxP_s] at ih
    refine fr_iload dX2_leastPlace_6 rfl ?_
    refine fr_iload_n dX2_leastPlace_8 rfl ?_
    refine fr_icmp_ge (tgt := 63) dX2_leastPlace_9 (by decide) (by omega) (by omega) (fun c => ?_) (fun c => ?_)
    · omega
    refine fr_iload_n dX2_leastPlace_12 rfl ?_
    refine fr_iload dX2_leastPlace_13 rfl ?_
    refine fr_callS kX2_leastPlace_15 (c_pointAt (d := 0) (by omega) (by omega)) (by omega) rfl rfl rfl ?_
    dsimp only [List.set, Option.toList, List.cons_append, List.nil_append]
    refine fr_istore dX2_leastPlace_18 (by decide) rfl rfl ?_
    dsimp only [List.set, Option.toList, List.cons_append, List.nil_append]
    refine fr_aload_n dX2_leastPlace_20 rfl ?_
    refine fr_get fX2_leastPlace_21 h1 rfl ?_
    refine fr_iload dX2_leastPlace_24 rfl ?_
    refine fr_callV kX2_leastPlace_26 (hhp) (by omega) h3 rfl rfl rfl ?_
    dsimp only [List.set, Option.toList, List.cons_append, List.nil_append]
    refine fr_if_eq (tgt := 57) dX2_leastPlace_29 (by decide) (by decide) (fun c2 => ?_) (fun c2 => ?_)
    · exact absurd c2 (by decide)
    refine fr_iload dX2_leastPlace_32 rfl ?_
    refine fr_aload_n dX2_leastPlace_34 rfl ?_
    refine fr_get fX2_leastPlace_35 h1 rfl ?_
    refine fr_iload dX2_leastPlace_38 rfl ?_
    refine fr_iald ((pAt o e)) dX2_leastPlace_40 h4 (by omega) (by omega) (by decide) ?_
    refine fr_aload_n dX2_leastPlace_41 rfl ?_
    refine fr_get fX2_leastPlace_42 h1 rfl ?_
    refine fr_iload dX2_leastPlace_45 rfl ?_
    refine fr_iload_n dX2_leastPlace_47 rfl ?_
    refine fr_callV kX2_leastPlace_48 (c_between (d := 0) h2 hpe hp) (by omega) h3 rfl rfl rfl ?_
    dsimp only [List.set, Option.toList, List.cons_append, List.nil_append]
    refine fr_iadd dX2_leastPlace_51 ?_
    refine fr_max kX2_leastPlace_52 (by omega) (by omega) rfl (by omega) ?_
    refine fr_istore dX2_leastPlace_55 (by decide) rfl rfl ?_
    dsimp only [List.set, Option.toList, List.cons_append, List.nil_append]
    refine fr_iinc dX2_leastPlace_57 rfl (by decide) rfl rfl ?_
    dsimp only [List.set, Option.toList, List.cons_append, List.nil_append]
    refine fr_goto (tgt := 6) dX2_leastPlace_60 (by decide) ?_
    exact ih.wk (by simp [fw_le])
theorem cross {p b a d' e q : Int} (hb : 0 < b) (he : 0 ≤ e) (hd : 0 ≤ d') (h1 : p * b ≤ a * d') (h2 : a * e ≤ q * b) : p * e ≤ q * d' := by
  have h3 : p * e * b ≤ q * d' * b := by
    calc p * e * b = (p * b) * e := by rw [Int.mul_right_comm]
      _ ≤ (a * d') * e := Int.mul_le_mul_of_nonneg_right h1 he
      _ = (a * e) * d' := by rw [Int.mul_right_comm]
      _ ≤ (q * b) * d' := Int.mul_le_mul_of_nonneg_right h2 hd
      _ = q * d' * b := by rw [Int.mul_right_comm]
  exact Int.le_of_mul_le_mul_right h3 hb
/-- as isST, of the pairs gone through -/
def stI (n : Nat) (D : Nat → Nat → Int) (P : Nat → Int) (Q : Nat → Nat → Prop) (a b : Nat) : Prop := 1 ≤ b ∧ a ≤ 200 ∧ b ≤ 30 ∧ (∀ i j, i < n → j < n → i < j → Q i j → 0 < D i j → ((P i - P j).natAbs : Int) * b ≤ a * D i j) ∧ ((a = 0 ∧ b = 1) ∨ ∃ i j, i < n ∧ j < n ∧ i < j ∧ 0 < D i j ∧ a = (P i - P j).natAbs ∧ (b : Int) = D i j)
theorem stI.mono {n : Nat} {D : Nat → Nat → Int} {P : Nat → Int} {Q Q' : Nat → Nat → Prop} {a b : Nat} (h : stI n D P Q a b) (hQ : ∀ i j, i < n → j < n → i < j → Q' i j → Q i j) : stI n D P Q' a b := ⟨h.1, h.2.1, h.2.2.1, fun i j hi hj hij q => h.2.2.2.1 i j hi hj hij (hQ i j hi hj hij q), h.2.2.2.2⟩
theorem stI.add {n : Nat} {D : Nat → Nat → Int} {P : Nat → Int} {Q Q' : Nat → Nat → Prop} {a b i j : Nat} (h : stI n D P Q a b) (hD : okR n D 30) (hP : ∀ k, k < n → 0 ≤ P k ∧ P k ≤ 200) (hi : i < n) (hj : j < n) (hij : i < j) (hQ : ∀ i' j', Q' i' j' → Q i' j' ∨ (i' = i ∧ j' = j)) :
    (0 < D i j ∧ (a : Int) * D i j < ((P i - P j).natAbs : Int) * b → stI n D P Q' (P i - P j).natAbs (D i j).toNat ∧ ((D i j).toNat : Int) = D i j) ∧ (¬ (0 < D i j ∧ (a : Int) * D i j < ((P i - P j).natAbs : Int) * b) → stI n D P Q' a b) := by
  have d1 := hD i j hi hj
  have p1 := hP i hi
  have p2 := hP j hj
  have hb : (0 : Int) < b := by have := h.1; omega
  refine ⟨fun z => ?_, fun z => ?_⟩
  · have ed : ((D i j).toNat : Int) = D i j := by omega
    refine ⟨⟨by omega, by omega, by omega, fun i' j' hi' hj' hij' q hd' => ?_, Or.inr ⟨i, j, hi, hj, hij, z.1, rfl, ed⟩⟩, ed⟩
    rw [ed]
    rcases hQ i' j' q with q1 | ⟨rfl, rfl⟩
    · exact cross hb (by omega) (by omega) (h.2.2.2.1 i' j' hi' hj' hij' q1 hd') (Int.le_of_lt z.2)
    · exact Int.le_refl _
  · refine ⟨h.1, h.2.1, h.2.2.1, fun i' j' hi' hj' hij' q hd' => ?_, h.2.2.2.2⟩
    rcases hQ i' j' q with q1 | ⟨rfl, rfl⟩
    · exact h.2.2.2.1 i' j' hi' hj' hij' q1 hd'
    · exact Int.not_lt.mp (fun y => z ⟨hd', y⟩)
theorem c_measureStretch {d n A B ba bb : Nat} {bo : Int} {D : Nat → Nat → Int} {f : Nat → Int} {w : fw_S} (hd : 1 ≤ d) (h : LA w n D f A B bo ba bb) (hD : okR n D 30) (hf : ∀ k, k < n → 0 ≤ f k ∧ f k ≤ 200) : ∃ (w' : fw_S) (A' B' : Nat), fw_K d mX2_measureStretch [.ref 13] w none w' ∧ LA w' n D f A' B' bo ba bb ∧ stI n D f (fun _ _ => True) A' B' ∧ kp w w' (fun k => k = 13) := by
  have hn := h.2.1.2.2
  have outer := lpE (M := mX2_measureStretch) (d := d) (pcH := 12) n (fun i _ => [some (.ref 13), some (.int (iI i)), none, none, none]) (fun i (_ : Unit) v => (∃ A' B', LA v n D f A' B' bo ba bb ∧ stI n D f (fun i' _ => i' < i) A' B') ∧ kp w v (fun k => k = 13)) (by
    intro i _ v hi ⟨⟨A', B', g1, g2⟩, g3⟩
    have inner := lpE (M := mX2_measureStretch) (d := d) (pcH := 27) n (fun j _ => [some (.ref 13), some (.int (iI i)), some (.int (iI j)), none, none]) (fun j (_ : Unit) v => i < j ∧ (∃ A' B', LA v n D f A' B' bo ba bb ∧ stI n D f (fun i' j' => i' < i ∨ i' = i ∧ j' < j) A' B') ∧ kp w v (fun k => k = 13)) (by
      intro j _ v hj ⟨hij, ⟨A', B', g1, g2⟩, g3⟩
      have g11 := g1.1
      have g12 := g1.2.1
      have g13 := g12.1
      have g14 := g1.2.2
      have d1 := hD i j hi hj
      have p1 := hf i hi
      have p2 := hf j hj
      have b1 := g2.1
      have b2' := g2.2.1
      have b3 := g2.2.2.1
      have hadd := g2.add (Q' := fun i' j' => i' < i ∨ i' = i ∧ j' < j + 1) hD hf hi hj hij (fun i' j' q => by omega)
      have m1 := mul_r (x := (((f i - f j).natAbs : Nat) : Int)) (y := (B' : Int)) (c := 200) (e := 30) (by omega) (by omega) (by omega)
      have m2 := mul_r (x := (A' : Int)) (y := D i j) (c := 200) (e := 30) (by omega) (by omega) (by omega)
      by_cases hc : 0 < D i j ∧ (A' : Int) * D i j < ((f i - f j).natAbs : Int) * B'
      · obtain ⟨hst, ed⟩ := hadd.1 hc
        have u1 := g1.up (f i - f j).natAbs B' bo ba bb
        have u2 := u1.up (f i - f j).natAbs (D i j).toNat bo ba bb
        rw [ed] at u2
        have u11 := u1.1
        refine ⟨(), _, ⟨by omega, ⟨_, _, u1.up (f i - f j).natAbs (D i j).toNat bo ba bb, hst⟩, (g3.trans (kp.up _ _ _)).trans (kp.up _ _ _)⟩, ?_⟩
        intro r w' kk
        rw [ed] at kk
        refine fr_iload_n dX2_measureStretch_27 rfl ?_
        refine fr_aload_n dX2_measureStretch_28 rfl ?_
        refine fr_get fX2_measureStretch_29 g11 rfl ?_
        refine fr_get fX2_measureStretch_32 g13 rfl ?_
        refine fr_icmp_ge (tgt := 103) dX2_measureStretch_35 (by decide) (by omega) (by omega) (fun c => ?_) (fun c => ?_)
        · omega
        refine fr_aload_n dX2_measureStretch_38 rfl ?_
        refine fr_get fX2_measureStretch_39 g11 rfl ?_
        refine fr_iload_n dX2_measureStretch_42 rfl ?_
        refine fr_iload_n dX2_measureStretch_43 rfl ?_
        refine fr_callV kX2_measureStretch_44 (c_between (d := 0) g12 hi hj) (by omega) g13 rfl rfl rfl ?_
        dsimp only [List.set, Option.toList, List.cons_append, List.nil_append]
        refine fr_istore_n dX2_measureStretch_47 rfl (by decide) rfl rfl ?_
        dsimp only [List.set, Option.toList, List.cons_append, List.nil_append]
        refine fr_aload_n dX2_measureStretch_48 rfl ?_
        refine fr_get fX2_measureStretch_49 g11 rfl ?_
        refine fr_iload_n dX2_measureStretch_52 rfl ?_
        refine fr_iald (i) dX2_measureStretch_53 g14 (by omega) (by omega) (by decide) ?_
        refine fr_aload_n dX2_measureStretch_54 rfl ?_
        refine fr_get fX2_measureStretch_55 g11 rfl ?_
        refine fr_iload_n dX2_measureStretch_58 rfl ?_
        refine fr_iald (j) dX2_measureStretch_59 g14 (by omega) (by omega) (by decide) ?_
        refine fr_isub dX2_measureStretch_60 ?_
        refine fr_abs kX2_measureStretch_61 (by omega) rfl (by omega) ?_
        refine fr_istore dX2_measureStretch_64 (by decide) rfl rfl ?_
        dsimp only [List.set, Option.toList, List.cons_append, List.nil_append]
        refine fr_iload_n dX2_measureStretch_66 rfl ?_
        refine fr_if_le (tgt := 97) dX2_measureStretch_67 (by decide) (by omega) (fun c => ?_) (fun c => ?_)
        · omega
        refine fr_iload dX2_measureStretch_70 rfl ?_
        refine fr_aload_n dX2_measureStretch_72 rfl ?_
        refine fr_get fX2_measureStretch_73 g11 rfl ?_
        refine fr_imul dX2_measureStretch_76 ?_
        refine fr_aload_n dX2_measureStretch_77 rfl ?_
        refine fr_get fX2_measureStretch_78 g11 rfl ?_
        refine fr_iload_n dX2_measureStretch_81 rfl ?_
        refine fr_imul dX2_measureStretch_82 ?_
        refine fr_icmp_le (tgt := 97) dX2_measureStretch_83 (by decide) (by omega) (by omega) (fun c => ?_) (fun c => ?_)
        · omega
        refine fr_aload_n dX2_measureStretch_86 rfl ?_
        refine fr_iload dX2_measureStretch_87 rfl ?_
        refine fr_put fX2_measureStretch_89 pfX2_2 g11 (by simp) rfl ?_
        dsimp only [List.set, Option.toList, List.cons_append, List.nil_append]
        refine fr_aload_n dX2_measureStretch_92 rfl ?_
        refine fr_iload_n dX2_measureStretch_93 rfl ?_
        refine fr_put fX2_measureStretch_94 pfX2_3 u11 (by simp) rfl ?_
        dsimp only [List.set, Option.toList, List.cons_append, List.nil_append]
        refine fr_iinc dX2_measureStretch_97 rfl (by decide) rfl rfl ?_
        dsimp only [List.set, Option.toList, List.cons_append, List.nil_append]
        refine fr_goto (tgt := 27) dX2_measureStretch_100 (by decide) ?_
        exact kk.wk (by simp [fw_le])
      · refine ⟨(), v, ⟨by omega, ⟨A', B', g1, hadd.2 hc⟩, g3⟩, ?_⟩
        intro r w' kk
        have done : fw_R mX2_measureStretch d 97 [some (.ref 13), some (.int (iI i)), some (.int (iI j)), some (.int (iI (D i j))), some (.int (iI (((f i - f j).natAbs : Nat) : Int)))] [] v r w' := by
          refine fr_iinc dX2_measureStretch_97 rfl (by decide) rfl rfl ?_
          dsimp only [List.set, Option.toList, List.cons_append, List.nil_append]
          refine fr_goto (tgt := 27) dX2_measureStretch_100 (by decide) ?_
          exact kk.wk (by simp [fw_le])
        refine fr_iload_n dX2_measureStretch_27 rfl ?_
        refine fr_aload_n dX2_measureStretch_28 rfl ?_
        refine fr_get fX2_measureStretch_29 g11 rfl ?_
        refine fr_get fX2_measureStretch_32 g13 rfl ?_
        refine fr_icmp_ge (tgt := 103) dX2_measureStretch_35 (by decide) (by omega) (by omega) (fun c => ?_) (fun c => ?_)
        · omega
        refine fr_aload_n dX2_measureStretch_38 rfl ?_
        refine fr_get fX2_measureStretch_39 g11 rfl ?_
        refine fr_iload_n dX2_measureStretch_42 rfl ?_
        refine fr_iload_n dX2_measureStretch_43 rfl ?_
        refine fr_callV kX2_measureStretch_44 (c_between (d := 0) g12 hi hj) (by omega) g13 rfl rfl rfl ?_
        dsimp only [List.set, Option.toList, List.cons_append, List.nil_append]
        refine fr_istore_n dX2_measureStretch_47 rfl (by decide) rfl rfl ?_
        dsimp only [List.set, Option.toList, List.cons_append, List.nil_append]
        refine fr_aload_n dX2_measureStretch_48 rfl ?_
        refine fr_get fX2_measureStretch_49 g11 rfl ?_
        refine fr_iload_n dX2_measureStretch_52 rfl ?_
        refine fr_iald (i) dX2_measureStretch_53 g14 (by omega) (by omega) (by decide) ?_
        refine fr_aload_n dX2_measureStretch_54 rfl ?_
        refine fr_get fX2_measureStretch_55 g11 rfl ?_
        refine fr_iload_n dX2_measureStretch_58 rfl ?_
        refine fr_iald (j) dX2_measureStretch_59 g14 (by omega) (by omega) (by decide) ?_
        refine fr_isub dX2_measureStretch_60 ?_
        refine fr_abs kX2_measureStretch_61 (by omega) rfl (by omega) ?_
        refine fr_istore dX2_measureStretch_64 (by decide) rfl rfl ?_
        dsimp only [List.set, Option.toList, List.cons_append, List.nil_append]
        refine fr_iload_n dX2_measureStretch_66 rfl ?_
        refine fr_if_le (tgt := 97) dX2_measureStretch_67 (by decide) (by omega) (fun c => ?_) (fun c => ?_)
        · exact done
        refine fr_iload dX2_measureStretch_70 rfl ?_
        refine fr_aload_n dX2_measureStretch_72 rfl ?_
        refine fr_get fX2_measureStretch_73 g11 rfl ?_
        refine fr_imul dX2_measureStretch_76 ?_
        refine fr_aload_n dX2_measureStretch_77 rfl ?_
        refine fr_get fX2_measureStretch_78 g11 rfl ?_
        refine fr_iload_n dX2_measureStretch_81 rfl ?_
        refine fr_imul dX2_measureStretch_82 ?_
        refine fr_icmp_le (tgt := 97) dX2_measureStretch_83 (by decide) (by omega) (by omega) (fun c2 => ?_) (fun c2 => ?_)
        · exact done
        · exact absurd ⟨c, c2⟩ hc)
    obtain ⟨_, wE, ⟨-, ⟨A2, B2, e1, e2⟩, e3⟩, hr⟩ := inner (i + 1) () v (by omega) ⟨by omega, ⟨A', B', g1, g2.mono (fun i' j' _ _ hij q => by omega)⟩, g3⟩
    have g11 := g1.1
    have g13 := g1.2.1.1
    have e11 := e1.1
    have e13 := e1.2.1.1
    refine ⟨(), wE, ⟨⟨A2, B2, e1, e2.mono (fun i' j' _ hj' hij q => by omega)⟩, e3⟩, ?_⟩
    intro r w' kk
    refine fr_iload_n dX2_measureStretch_12 rfl ?_
    refine fr_aload_n dX2_measureStretch_13 rfl ?_
    refine fr_get fX2_measureStretch_14 g11 rfl ?_
    refine fr_get fX2_measureStretch_17 g13 rfl ?_
    refine fr_icmp_ge (tgt := 109) dX2_measureStretch_20 (by decide) (by omega) (by omega) (fun c => ?_) (fun c => ?_)
    · omega
    refine fr_iload_n dX2_measureStretch_23 rfl ?_
    refine fr_iconst dX2_measureStretch_24 ?_
    refine fr_iadd dX2_measureStretch_25 ?_
    refine fr_istore_n dX2_measureStretch_26 rfl (by decide) rfl rfl ?_
    dsimp only [List.set, Option.toList, List.cons_append, List.nil_append]
    refine hr r w' ?_
    refine fr_iload_n dX2_measureStretch_27 rfl ?_
    refine fr_aload_n dX2_measureStretch_28 rfl ?_
    refine fr_get fX2_measureStretch_29 e11 rfl ?_
    refine fr_get fX2_measureStretch_32 e13 rfl ?_
    refine fr_icmp_ge (tgt := 103) dX2_measureStretch_35 (by decide) (by omega) (by omega) (fun c => ?_) (fun c => ?_)
    · refine fr_iinc dX2_measureStretch_103 rfl (by decide) rfl rfl ?_
      dsimp only [List.set, Option.toList, List.cons_append, List.nil_append]
      refine fr_goto (tgt := 12) dX2_measureStretch_106 (by decide) ?_
      exact kk.wk (by simp [fw_le])
    · omega)
  have u1 := h.up 0 B bo ba bb
  have u2 := u1.up 0 1 bo ba bb
  obtain ⟨_, wE, ⟨⟨A2, B2, e1, e2⟩, e3⟩, hr⟩ := outer 0 () _ (by omega) ⟨⟨0, 1, u2, by omega, by omega, by omega, fun i j _ _ _ q => absurd q (Nat.not_lt_zero i), Or.inl ⟨rfl, rfl⟩⟩, (kp.up _ _ _).trans (kp.up _ _ _)⟩
  refine ⟨wE, A2, B2, ?_, e1, e2.mono (fun i j hi _ _ _ => hi), e3⟩
  have h1 := h.1
  have u11 := u1.1
  have e11 := e1.1
  have e13 := e1.2.1.1
  refine fw_K.of (by decide) (Nat.le_of_ble_eq_true rfl) (by simp [Value.category]) (e3.1) ?_
  show fw_R _ _ 0 [some (.ref 13), none, none, none, none] [] _ _ _
  refine fr_aload_n dX2_measureStretch_0 rfl ?_
  refine fr_iconst dX2_measureStretch_1 ?_
  refine fr_put fX2_measureStretch_2 pfX2_2 h1 (by simp) rfl ?_
  dsimp only [List.set, Option.toList, List.cons_append, List.nil_append]
  refine fr_aload_n dX2_measureStretch_5 rfl ?_
  refine fr_iconst dX2_measureStretch_6 ?_
  refine fr_put fX2_measureStretch_7 pfX2_3 u11 (by simp) rfl ?_
  dsimp only [List.set, Option.toList, List.cons_append, List.nil_append]
  refine fr_iconst dX2_measureStretch_10 ?_
  refine fr_istore_n dX2_measureStretch_11 rfl (by decide) rfl rfl ?_
  dsimp only [List.set, Option.toList, List.cons_append, List.nil_append]
  refine hr _ _ ?_
  refine fr_iload_n dX2_measureStretch_12 rfl ?_
  refine fr_aload_n dX2_measureStretch_13 rfl ?_
  refine fr_get fX2_measureStretch_14 e11 rfl ?_
  refine fr_get fX2_measureStretch_17 e13 rfl ?_
  refine fr_icmp_ge (tgt := 109) dX2_measureStretch_20 (by decide) (by omega) (by omega) (fun c => ?_) (fun c => ?_)
  · exact fr_vret dX2_measureStretch_109 rfl rfl (rfl)
  · omega
theorem stI.is {n : Nat} {D : Nat → Nat → Int} {P : Nat → Int} {a b : Nat} (h : stI n D P (fun _ _ => True) a b) : isST n D P a b := ⟨h.1, fun i j hi hj hij hd => h.2.2.2.1 i j hi hj hij trivial hd, h.2.2.2.2⟩
theorem stI.cg {n : Nat} {D : Nat → Nat → Int} {P P' : Nat → Int} {Q : Nat → Nat → Prop} {a b : Nat} (h : stI n D P Q a b) (hP : ∀ i, i < n → P i = P' i) : stI n D P' Q a b := by
  refine ⟨h.1, h.2.1, h.2.2.1, fun i j hi hj hij q hd => ?_, ?_⟩
  · rw [← hP i hi, ← hP j hj]; exact h.2.2.2.1 i j hi hj hij q hd
  · rcases h.2.2.2.2 with q | ⟨i, j, hi, hj, hij, q1, q2, q3⟩
    · exact Or.inl q
    · exact Or.inr ⟨i, j, hi, hj, hij, q1, by rw [← hP i hi, ← hP j hj]; exact q2, q3⟩
theorem c_lay {d n o A B ba bb : Nat} {bo : Int} {D : Nat → Nat → Int} {f : Nat → Int} {w : fw_S} (hd : 3 ≤ d) (h : LA w n D f A B bo ba bb) (hD : okR n D 30) (ho : vOrd n o) : ∃ (w' : fw_S) (f' : Nat → Int) (A' B' : Nat), fw_K d mX2_lay [.ref 13, .int (iI o)] w none w' ∧ LA w' n D f' A' B' bo ba bb ∧ (∀ i, i < n → f' i = PLs D o n i) ∧ stI n D (PLs D o n) (fun _ _ => True) A' B' ∧ kp w w' (fun k => k = 13 ∨ k = 14) := by
  have hn := h.2.1.2.2
  have hp3 := p3_le (t := n) (by omega)
  have ho1 := ho.1
  have hon := ho.on.2
  have hPr := PLs_r hD hon
  have lp := lpE (M := mX2_lay) (d := d) (pcH := 2) n (fun t _ => [some (.ref 13), some (.int (iI o)), some (.int (iI t)), none]) (fun t (_ : Unit) v => (∃ g, LA v n D g A B bo ba bb ∧ ∀ e, e < t → g (pAt o e) = PLs D o t (pAt o e)) ∧ kp w v (fun k => k = 14)) (by
    intro t _ v ht ⟨⟨g, g1, g2⟩, g3⟩
    have hpt := hon t ht
    have g11 := g1.1
    have g12 := g1.2.1
    have g13 := g12.1
    have g14 := g1.2.2
    have hpr := hPr t (by omega)
    have hleast := c_leastPlace (d := d - 1) (o := o) (t := t) (p := pAt o t) (by omega) g1 hD ho1 hon ht hpt (fun e he => by rw [g2 e he]; have := hpr (pAt o e); omega)
    rw [mxP_cg (fun e he => g2 e he)] at hleast
    have hhp := c_hasPoint (d := 0) g12 (i := (pAt o t : Int)) (by omega)
    rw [show decide (0 ≤ (pAt o t : Int) ∧ (pAt o t : Int) < (n : Int)) = true by simp only [decide_eq_true_eq]; omega] at hhp
    refine ⟨(), fw_up v 14 (.inr (6, .inl (fw_u g (pAt o t) (mxP D o (PLs D o t) (pAt o t) t)))), ⟨⟨_, ⟨g11.ne _ (by decide), g12.kp (kp.up v 14 _) (by decide) (by decide), g14.up _⟩, fun e he => ?_⟩, g3.trans (kp.up _ _ _)⟩, ?_⟩
    · rw [PLs_s]
      by_cases q : pAt o e = pAt o t
      · rw [q, fw_u_self, fw_u_self]
      · rw [fw_u_ne _ _ q, fw_u_ne _ _ q]
        have : e ≠ t := fun z => q (by rw [z])
        exact g2 e (by omega)
    · intro r w' kk
      refine fr_iload_n dX2_lay_2 rfl ?_
      refine fr_aload_n dX2_lay_3 rfl ?_
      refine fr_get fX2_lay_4 g11 rfl ?_
      refine fr_get fX2_lay_7 g13 rfl ?_
      refine fr_icmp_ge (tgt := 49) dX2_lay_10 (by decide) (by omega) (by omega) (fun c => ?_) (fun c => ?_)
      · omega
      refine fr_iload_n dX2_lay_13 rfl ?_
      refine fr_iload_n dX2_lay_14 rfl ?_
      refine fr_callS kX2_lay_15 (c_pointAt (d := 0) (by omega) (by omega)) (by omega) rfl rfl rfl ?_
      dsimp only [List.set, Option.toList, List.cons_append, List.nil_append]
      refine fr_istore_n dX2_lay_18 rfl (by decide) rfl rfl ?_
      dsimp only [List.set, Option.toList, List.cons_append, List.nil_append]
      refine fr_aload_n dX2_lay_19 rfl ?_
      refine fr_get fX2_lay_20 g11 rfl ?_
      refine fr_iload_n dX2_lay_23 rfl ?_
      refine fr_callV kX2_lay_24 (hhp) (by omega) g13 rfl rfl rfl ?_
      dsimp only [List.set, Option.toList, List.cons_append, List.nil_append]
      refine fr_if_eq (tgt := 43) dX2_lay_27 (by decide) (by decide) (fun c => ?_) (fun c => ?_)
      · exact absurd c (by decide)
      refine fr_aload_n dX2_lay_30 rfl ?_
      refine fr_get fX2_lay_31 g11 rfl ?_
      refine fr_iload_n dX2_lay_34 rfl ?_
      refine fr_aload_n dX2_lay_35 rfl ?_
      refine fr_iload_n dX2_lay_36 rfl ?_
      refine fr_iload_n dX2_lay_37 rfl ?_
      refine fr_iload_n dX2_lay_38 rfl ?_
      refine fr_callV kX2_lay_39 (hleast) (by omega) g11 rfl rfl rfl ?_
      dsimp only [List.set, Option.toList, List.cons_append, List.nil_append]
      refine fr_iast ((pAt o t)) dX2_lay_42 g14 (by omega) (by omega) (by decide) ?_
      refine fr_iinc dX2_lay_43 rfl (by decide) rfl rfl ?_
      dsimp only [List.set, Option.toList, List.cons_append, List.nil_append]
      refine fr_goto (tgt := 2) dX2_lay_46 (by decide) ?_
      exact kk.wk (by simp [fw_le]))
  obtain ⟨_, w1, ⟨⟨g, e1, e2⟩, e3⟩, hr⟩ := lp 0 () w (Nat.zero_le _) ⟨⟨f, h, fun e he => absurd he (Nat.not_lt_zero e)⟩, kp.rf⟩
  have hg : ∀ i, i < n → g i = PLs D o n i := fun i hi => by
    obtain ⟨e, he, rfl⟩ := ho.on.1 i hi
    exact e2 e he
  obtain ⟨w2, A', B', k1, k2, k3, k4⟩ := c_measureStretch (d := d - 1) (by omega) e1 hD (fun k hk => by rw [hg k hk]; have := hPr n (Nat.le_refl n) k; omega)
  have kall : kp w w2 (fun k => k = 13 ∨ k = 14) := (e3.mono (fun k hk => Or.inr hk)).trans (k4.mono (fun k hk => Or.inl hk))
  refine ⟨w2, g, A', B', ?_, k2, hg, k3.cg hg, kall⟩
  have e11 := e1.1
  have e13 := e1.2.1.1
  refine fw_K.of (by decide) (Nat.le_of_ble_eq_true rfl) (by simp [Value.category]) (kall.1) ?_
  show fw_R _ _ 0 [some (.ref 13), some (.int (iI o)), none, none] [] _ _ _
  refine fr_iconst dX2_lay_0 ?_
  refine fr_istore_n dX2_lay_1 rfl (by decide) rfl rfl ?_
  dsimp only [List.set, Option.toList, List.cons_append, List.nil_append]
  refine hr _ _ ?_
  refine fr_iload_n dX2_lay_2 rfl ?_
  refine fr_aload_n dX2_lay_3 rfl ?_
  refine fr_get fX2_lay_4 e11 rfl ?_
  refine fr_get fX2_lay_7 e13 rfl ?_
  refine fr_icmp_ge (tgt := 49) dX2_lay_10 (by decide) (by omega) (by omega) (fun c => ?_) (fun c => ?_)
  · refine fr_aload_n dX2_lay_49 rfl ?_
    refine fr_callV kX2_lay_50 (k1) (by omega) e11 rfl rfl rfl ?_
    dsimp only [List.set, Option.toList, List.cons_append, List.nil_append]
    exact fr_vret dX2_lay_53 rfl rfl (rfl)
  · omega
