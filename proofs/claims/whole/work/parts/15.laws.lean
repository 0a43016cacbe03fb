/-! laws: the cases gone through, and the Laws' small methods -/
theorem nI_bv (n : Nat) : (nI n).toBitVec = BitVec.ofNat 32 n := rfl
theorem iI_or (a b : Nat) : iI a ||| iI b = iI ((a ||| b : Nat) : Int) := by
  rw [iI_nat, iI_nat, iI_nat, ← Int32.toBitVec_inj, Int32.toBitVec_or]
  rw [nI_bv, nI_bv, nI_bv]
  apply BitVec.eq_of_toNat_eq
  simp only [BitVec.toNat_or, BitVec.toNat_ofNat]
  rw [Nat.or_mod_two_pow]
theorem iI_and (a b : Nat) : iI a &&& iI b = iI ((a &&& b : Nat) : Int) := by
  rw [iI_nat, iI_nat, iI_nat, ← Int32.toBitVec_inj, Int32.toBitVec_and]
  rw [nI_bv, nI_bv, nI_bv]
  apply BitVec.eq_of_toNat_eq
  simp only [BitVec.toNat_and, BitVec.toNat_ofNat]
  rw [Nat.and_mod_two_pow]
/-- how many of the first m numbers break (p), and the first that does (-4: none) -/
def scC (p : Nat → Bool) : Nat → Int
  | 0 => 0
  | m + 1 => scC p m + (if p m = true then 1 else 0)
def scF (p : Nat → Bool) : Nat → Int
  | 0 => -4
  | m + 1 => if p m = true ∧ scC p m = 0 then (m : Int) else scF p m
theorem scC_s (p : Nat → Bool) (m : Nat) : scC p (m + 1) = scC p m + (if p m = true then 1 else 0) := rfl
theorem scF_s (p : Nat → Bool) (m : Nat) : scF p (m + 1) = if p m = true ∧ scC p m = 0 then (m : Int) else scF p m := rfl
theorem scC_r (p : Nat → Bool) : ∀ m : Nat, 0 ≤ scC p m ∧ scC p m ≤ m
  | 0 => by simp [scC]
  | m + 1 => by
    have := scC_r p m
    rw [scC_s]; split <;> omega
theorem sc_skip {p : Nat → Bool} {m m' : Nat} (hm : m ≤ m') (h : ∀ k, m ≤ k → k < m' → p k = false) : scF p m' = scF p m ∧ scC p m' = scC p m := by
  obtain ⟨k, rfl⟩ : ∃ k, m' = m + k := ⟨m' - m, by omega⟩
  clear hm
  induction k with
  | zero => exact ⟨rfl, rfl⟩
  | succ k ih =>
    have ih := ih (fun j h1 h2 => h j h1 (by omega))
    have hp := h (m + k) (by omega) (by omega)
    rw [show m + (k + 1) = (m + k) + 1 by omega, scC_s, scF_s, hp]
    simp [ih]
theorem c_hasLaw {d : Nat} {w : fw_S} {c : Int} (hc : -2147483648 ≤ c ∧ c ≤ 2147483647) : fw_K d mX1_hasLaw [.int (iI c)] w (some (.int (iI (b2 (decide (0 ≤ c ∧ c ≤ 3)))))) w := by
  refine fw_K.of (by decide) (Nat.le_of_ble_eq_true rfl) (by simp [Value.category]) (rfl) ?_
  show fw_R _ _ 0 [some (.int (iI c))] [] _ _ _
  refine fr_iload_n dX1_hasLaw_0 rfl ?_
  refine fr_if_lt (tgt := 13) dX1_hasLaw_1 (by decide) (by omega) (fun q => ?_) (fun q => ?_)
  · refine fr_iconst dX1_hasLaw_13 ?_
    exact fr_zret dX1_hasLaw_14 rfl (by decide) (by rw [show decide (0 ≤ c ∧ c ≤ 3) = false by simp only [decide_eq_false_iff_not]; omega]; rfl) (rfl)
  · refine fr_iload_n dX1_hasLaw_4 rfl ?_
    refine fr_iconst dX1_hasLaw_5 ?_
    refine fr_icmp_gt (tgt := 13) dX1_hasLaw_6 (by decide) (by omega) (by omega) (fun q2 => ?_) (fun q2 => ?_)
    · refine fr_iconst dX1_hasLaw_13 ?_
      exact fr_zret dX1_hasLaw_14 rfl (by decide) (by rw [show decide (0 ≤ c ∧ c ≤ 3) = false by simp only [decide_eq_false_iff_not]; omega]; rfl) (rfl)
    · refine fr_iconst dX1_hasLaw_9 ?_
      refine fr_goto (tgt := 14) dX1_hasLaw_10 (by decide) ?_
      exact fr_zret dX1_hasLaw_14 rfl (by decide) (by rw [show decide (0 ≤ c ∧ c ≤ 3) = true by simp only [decide_eq_true_eq]; omega]; rfl) (rfl)
/-- o is a Laws of the table t; what it has found -/
def lst (w : fw_S) (o t a wa n : Nat) (D : Nat → Nat → Int) (fc br : Int) : Prop := fw_g w o (.inl (1, [.ref t, .ref wa, .int (iI fc), .int (iI br)])) ∧ tb w t a n D ∧ (∃ f, fw_g w wa (.inr (6, .inl f))) ∧ wa ≠ a
theorem lst.ot {w : fw_S} {o t a wa n : Nat} {D : Nat → Nat → Int} {fc br : Int} (h : lst w o t a wa n D fc br) : o ≠ t ∧ o ≠ a ∧ o ≠ wa ∧ wa ≠ t ∧ t ≠ a := by
  obtain ⟨h1, ⟨h2, ⟨f, h3, -⟩, -⟩, ⟨g, h4⟩, h5⟩ := h
  exact ⟨fun q => (by subst q; have := h1.inj h2; cases this), h1.oa h3, h1.oa h4, (h2.oa h4).symm, h2.oa h3⟩
theorem lst.up {w : fw_S} {o t a wa n : Nat} {D : Nat → Nat → Int} {fc br : Int} (h : lst w o t a wa n D fc br) (fc' br' : Int) : lst (fw_up w o (.inl (1, [.ref t, .ref wa, .int (iI fc'), .int (iI br')]))) o t a wa n D fc' br' := by
  have hn := h.ot
  obtain ⟨h1, h2, ⟨g, h4⟩, h5⟩ := h
  exact ⟨h1.up _, h2.kp (kp.up w o _) (fun q => hn.1 q.symm) (fun q => hn.2.1 q.symm), ⟨g, h4.ne _ hn.2.2.1.symm⟩, h5⟩
theorem c_note {d o t a wa n : Nat} {D : Nat → Nat → Int} {fc br : Int} {w : fw_S} (h : lst w o t a wa n D fc br) (hb : 0 ≤ br ∧ br ≤ 100000) (z : Int) : ∃ w', fw_K d mX1_note [.ref o, .int (iI z)] w none w' ∧ lst w' o t a wa n D (if br = 0 then z else fc) (br + 1) ∧ kp w w' (fun k => k = o) := by
  have h1 := h.1
  by_cases hb0 : br = 0
  · have h2 := h.up z br
    have h3 := h2.up z (br + 1)
    refine ⟨_, ?_, by rw [if_pos hb0]; exact h3, (kp.up _ _ _).trans (kp.up _ _ _)⟩
    refine fw_K.of (by decide) (Nat.le_of_ble_eq_true rfl) (by simp [Value.category]) (rfl) ?_
    show fw_R _ _ 0 [some (.ref o), some (.int (iI z))] [] _ _ _
    refine fr_aload_n dX1_note_0 rfl ?_
    refine fr_get fX1_note_1 h1 rfl ?_
    refine fr_if_ne (tgt := 12) dX1_note_4 (by decide) (by omega) (fun c => ?_) (fun c => ?_)
    · omega
    · refine fr_aload_n dX1_note_7 rfl ?_
      refine fr_iload_n dX1_note_8 rfl ?_
      refine fr_put fX1_note_9 pfX1_2 h1 (by simp) rfl ?_
      dsimp only [List.set, Option.toList, List.cons_append, List.nil_append]
      refine fr_aload_n dX1_note_12 rfl ?_
      refine fr_dup dX1_note_13 rfl ?_
      refine fr_get fX1_note_14 h2.1 rfl ?_
      refine fr_iconst dX1_note_17 ?_
      refine fr_iadd dX1_note_18 ?_
      refine fr_put fX1_note_19 pfX1_3 h2.1 (by simp) rfl ?_
      dsimp only [List.set, Option.toList, List.cons_append, List.nil_append]
      exact fr_vret dX1_note_22 rfl rfl (rfl)
  · have h3 := h.up fc (br + 1)
    refine ⟨_, ?_, by rw [if_neg hb0]; exact h3, (kp.up _ _ _)⟩
    refine fw_K.of (by decide) (Nat.le_of_ble_eq_true rfl) (by simp [Value.category]) (rfl) ?_
    show fw_R _ _ 0 [some (.ref o), some (.int (iI z))] [] _ _ _
    refine fr_aload_n dX1_note_0 rfl ?_
    refine fr_get fX1_note_1 h1 rfl ?_
    refine fr_if_ne (tgt := 12) dX1_note_4 (by decide) (by omega) (fun c => ?_) (fun c => ?_)
    · refine fr_aload_n dX1_note_12 rfl ?_
      refine fr_dup dX1_note_13 rfl ?_
      refine fr_get fX1_note_14 h1 rfl ?_
      refine fr_iconst dX1_note_17 ?_
      refine fr_iadd dX1_note_18 ?_
      refine fr_put fX1_note_19 pfX1_3 h1 (by simp) rfl ?_
      dsimp only [List.set, Option.toList, List.cons_append, List.nil_append]
      exact fr_vret dX1_note_22 rfl rfl (rfl)
    · omega
theorem c_noteS {d o t a wa n m : Nat} {D : Nat → Nat → Int} {p : Nat → Bool} {w : fw_S} (h : lst w o t a wa n D (scF p m) (scC p m)) (hm : m ≤ 100000) (hp : p m = true) : ∃ w', fw_K d mX1_note [.ref o, .int (iI m)] w none w' ∧ lst w' o t a wa n D (scF p (m + 1)) (scC p (m + 1)) ∧ kp w w' (fun k => k = o) := by
  have hr := scC_r p m
  obtain ⟨w', k1, k2, k3⟩ := c_note (d := d) h ⟨by omega, by omega⟩ (m : Int)
  refine ⟨w', k1, ?_, k3⟩
  rw [scC_s, scF_s, hp]
  simp only [true_and, if_true]
  exact k2
def alone (x y z : Int) : Bool := decide (x > max y z ∨ y > max x z ∨ z > max x y)
theorem c_alone {d : Nat} {w : fw_S} {x y z : Int} (hd : 1 ≤ d) (hx : 0 ≤ x ∧ x ≤ 1000) (hy : 0 ≤ y ∧ y ≤ 1000) (hz : 0 ≤ z ∧ z ≤ 1000) : fw_K d mX1_greatestIsAlone [.int (iI x), .int (iI y), .int (iI z)] w (some (.int (iI (b2 (alone x y z))))) w := by
  refine fw_K.of (by decide) (Nat.le_of_ble_eq_true rfl) (by simp [Value.category]) (rfl) ?_
  show fw_R _ _ 0 [some (.int (iI x)), some (.int (iI y)), some (.int (iI z))] [] _ _ _
  refine fr_iload_n dX1_greatestIsAlone_0 rfl ?_
  refine fr_iload_n dX1_greatestIsAlone_1 rfl ?_
  refine fr_iload_n dX1_greatestIsAlone_2 rfl ?_
  refine fr_max kX1_greatestIsAlone_3 (by omega) (by omega) rfl (by omega) ?_
  refine fr_icmp_gt (tgt := 27) dX1_greatestIsAlone_6 (by decide) (by omega) (by omega) (fun c => ?_) (fun c => ?_)
  · refine fr_iconst dX1_greatestIsAlone_27 ?_
    refine fr_goto (tgt := 32) dX1_greatestIsAlone_28 (by decide) ?_
    exact fr_zret dX1_greatestIsAlone_32 rfl (by decide) (by rw [show alone x y z = true by unfold alone; simp only [decide_eq_true_eq]; omega]; rfl) (rfl)
  · refine fr_iload_n dX1_greatestIsAlone_9 rfl ?_
    refine fr_iload_n dX1_greatestIsAlone_10 rfl ?_
    refine fr_iload_n dX1_greatestIsAlone_11 rfl ?_
    refine fr_max kX1_greatestIsAlone_12 (by omega) (by omega) rfl (by omega) ?_
    refine fr_icmp_gt (tgt := 27) dX1_greatestIsAlone_15 (by decide) (by omega) (by omega) (fun c2 => ?_) (fun c2 => ?_)
    · refine fr_iconst dX1_greatestIsAlone_27 ?_
      refine fr_goto (tgt := 32) dX1_greatestIsAlone_28 (by decide) ?_
      exact fr_zret dX1_greatestIsAlone_32 rfl (by decide) (by rw [show alone x y z = true by unfold alone; simp only [decide_eq_true_eq]; omega]; rfl) (rfl)
    · refine fr_iload_n dX1_greatestIsAlone_18 rfl ?_
      refine fr_iload_n dX1_greatestIsAlone_19 rfl ?_
      refine fr_iload_n dX1_greatestIsAlone_20 rfl ?_
      refine fr_max kX1_greatestIsAlone_21 (by omega) (by omega) rfl (by omega) ?_
      refine fr_icmp_le (tgt := 31) dX1_greatestIsAlone_24 (by decide) (by omega) (by omega) (fun c3 => ?_) (fun c3 => ?_)
      · refine fr_iconst dX1_greatestIsAlone_31 ?_
        exact fr_zret dX1_greatestIsAlone_32 rfl (by decide) (by rw [show alone x y z = false by unfold alone; simp only [decide_eq_false_iff_not]; omega]; rfl) (rfl)
      · refine fr_iconst dX1_greatestIsAlone_27 ?_
        refine fr_goto (tgt := 32) dX1_greatestIsAlone_28 (by decide) ?_
        exact fr_zret dX1_greatestIsAlone_32 rfl (by decide) (by rw [show alone x y z = true by unfold alone; simp only [decide_eq_true_eq]; omega]; rfl) (rfl)
theorem c_sumsStickOut {d o t a wa n i j k l : Nat} {D : Nat → Nat → Int} {fc br : Int} {w : fw_S} (hd : 2 ≤ d) (h : lst w o t a wa n D fc br) (hD : okR n D 60) (hi : i < n) (hj : j < n) (hk : k < n) (hl : l < n) : fw_K d mX1_sumsStickOut [.ref o, .int (iI i), .int (iI j), .int (iI k), .int (iI l)] w (some (.int (iI (b2 (alone (D i j + D k l) (D i k + D j l) (D i l + D j k)))))) w := by
  have h1 := h.1
  have h2 := h.2.1
  have h3 := h2.1
  have d1 := hD i j hi hj
  have d2 := hD k l hk hl
  have d3 := hD i k hi hk
  have d4 := hD j l hj hl
  have d5 := hD i l hi hl
  have d6 := hD j k hj hk
  refine fw_K.of (by decide) (Nat.le_of_ble_eq_true rfl) (by simp [Value.category]) (rfl) ?_
  show fw_R _ _ 0 [some (.ref o), some (.int (iI i)), some (.int (iI j)), some (.int (iI k)), some (.int (iI l))] [] _ _ _
  refine fr_aload_n dX1_sumsStickOut_0 rfl ?_
  refine fr_get fX1_sumsStickOut_1 h1 rfl ?_
  refine fr_iload_n dX1_sumsStickOut_4 rfl ?_
  refine fr_iload_n dX1_sumsStickOut_5 rfl ?_
  refine fr_callV kX1_sumsStickOut_6 (c_between (d := 0) h2 hi hj) (by omega) h3 rfl rfl rfl ?_
  dsimp only [List.set, Option.toList, List.cons_append, List.nil_append]
  refine fr_aload_n dX1_sumsStickOut_9 rfl ?_
  refine fr_get fX1_sumsStickOut_10 h1 rfl ?_
  refine fr_iload_n dX1_sumsStickOut_13 rfl ?_
  refine fr_iload dX1_sumsStickOut_14 rfl ?_
  refine fr_callV kX1_sumsStickOut_16 (c_between (d := 0) h2 hk hl) (by omega) h3 rfl rfl rfl ?_
  dsimp only [List.set, Option.toList, List.cons_append, List.nil_append]
  refine fr_iadd dX1_sumsStickOut_19 ?_
  refine fr_aload_n dX1_sumsStickOut_20 rfl ?_
  refine fr_get fX1_sumsStickOut_21 h1 rfl ?_
  refine fr_iload_n dX1_sumsStickOut_24 rfl ?_
  refine fr_iload_n dX1_sumsStickOut_25 rfl ?_
  refine fr_callV kX1_sumsStickOut_26 (c_between (d := 0) h2 hi hk) (by omega) h3 rfl rfl rfl ?_
  dsimp only [List.set, Option.toList, List.cons_append, List.nil_append]
  refine fr_aload_n dX1_sumsStickOut_29 rfl ?_
  refine fr_get fX1_sumsStickOut_30 h1 rfl ?_
  refine fr_iload_n dX1_sumsStickOut_33 rfl ?_
  refine fr_iload dX1_sumsStickOut_34 rfl ?_
  refine fr_callV kX1_sumsStickOut_36 (c_between (d := 0) h2 hj hl) (by omega) h3 rfl rfl rfl ?_
  dsimp only [List.set, Option.toList, List.cons_append, List.nil_append]
  refine fr_iadd dX1_sumsStickOut_39 ?_
  refine fr_aload_n dX1_sumsStickOut_40 rfl ?_
  refine fr_get fX1_sumsStickOut_41 h1 rfl ?_
  refine fr_iload_n dX1_sumsStickOut_44 rfl ?_
  refine fr_iload dX1_sumsStickOut_45 rfl ?_
  refine fr_callV kX1_sumsStickOut_47 (c_between (d := 0) h2 hi hl) (by omega) h3 rfl rfl rfl ?_
  dsimp only [List.set, Option.toList, List.cons_append, List.nil_append]
  refine fr_aload_n dX1_sumsStickOut_50 rfl ?_
  refine fr_get fX1_sumsStickOut_51 h1 rfl ?_
  refine fr_iload_n dX1_sumsStickOut_54 rfl ?_
  refine fr_iload_n dX1_sumsStickOut_55 rfl ?_
  refine fr_callV kX1_sumsStickOut_56 (c_between (d := 0) h2 hj hk) (by omega) h3 rfl rfl rfl ?_
  dsimp only [List.set, Option.toList, List.cons_append, List.nil_append]
  refine fr_iadd dX1_sumsStickOut_59 ?_
  refine fr_callS kX1_sumsStickOut_60 (c_alone (d := 1) (by omega) (by omega) (by omega) (by omega)) (by omega) rfl rfl rfl ?_
  dsimp only [List.set, Option.toList, List.cons_append, List.nil_append]
  exact fr_zret dX1_sumsStickOut_63 rfl (b2_nar _) rfl rfl
