/-! the reference: stretch, line, best -/
theorem c_common {d : Nat} {w : fw_S} : ∀ (y x : Nat), x ≤ 100000 → y ≤ 100000 → ∀ (a b : Nat) (x4 : Option Value), Nat.gcd x y = Nat.gcd a b → fw_R mX8_common d 4 [some (.int (iI a)), some (.int (iI b)), some (.int (iI x)), some (.int (iI y)), x4] [] w (some (.int (iI ((Nat.gcd a b : Nat) : Int)))) w := by
  intro y
  induction y using Nat.strongRecOn with
  | _ y ih =>
    intro x hx hy a b x4 hg
    refine fw_R.wk (L1 := [some (.int (iI a)), some (.int (iI b)), some (.int (iI x)), some (.int (iI y)), none]) ?_ (by simp [fw_le])
    refine fr_iload_n dX8_common_4 rfl ?_
    refine fr_if_eq (tgt := 21) dX8_common_5 (by decide) (by omega) (fun c => ?_) (fun c => ?_)
    · have : y = 0 := by omega
      subst this
      rw [Nat.gcd_zero_right] at hg
      refine fr_iload_n dX8_common_21 rfl ?_
      rw [hg]
      exact fr_iret dX8_common_22 rfl (rfl) (rfl)
    · have hm := Nat.mod_lt x (show 0 < y by omega)
      have e1 : (x : Int).tmod (y : Int) = ((x % y : Nat) : Int) := tm_nat x y
      refine fr_iload_n dX8_common_8 rfl ?_
      refine fr_iload_n dX8_common_9 rfl ?_
      refine fr_irem dX8_common_10 (by omega) (by omega) (by omega) ?_
      rw [e1]
      refine fr_istore dX8_common_11 (by decide) rfl rfl ?_
      dsimp only [List.set, Option.toList, List.cons_append, List.nil_append]
      refine fr_iload_n dX8_common_13 rfl ?_
      refine fr_istore_n dX8_common_14 rfl (by decide) rfl rfl ?_
      dsimp only [List.set, Option.toList, List.cons_append, List.nil_append]
      refine fr_iload dX8_common_15 rfl ?_
      refine fr_istore_n dX8_common_17 rfl (by decide) rfl rfl ?_
      dsimp only [List.set, Option.toList, List.cons_append, List.nil_append]
      refine fr_goto (tgt := 4) dX8_common_18 (by decide) ?_
      exact ih (x % y) (by omega) y hy (by omega) a b _ (by rw [← hg, Nat.gcd_comm y, Nat.gcd_comm x y, Nat.gcd_rec y x])
theorem c_mcommon {d a b : Nat} {w : fw_S} (ha : a ≤ 100000) (hb : b ≤ 100000) : fw_K d mX8_common [.int (iI a), .int (iI b)] w (some (.int (iI ((Nat.gcd a b : Nat) : Int)))) w := by
  refine fw_K.of (by decide) (Nat.le_of_ble_eq_true rfl) (by simp [Value.category]) (rfl) ?_
  show fw_R _ _ 0 [some (.int (iI a)), some (.int (iI b)), none, none, none] [] _ _ _
  refine fr_iload_n dX8_common_0 rfl ?_
  refine fr_istore_n dX8_common_1 rfl (by decide) rfl rfl ?_
  dsimp only [List.set, Option.toList, List.cons_append, List.nil_append]
  refine fr_iload_n dX8_common_2 rfl ?_
  refine fr_istore_n dX8_common_3 rfl (by decide) rfl rfl ?_
  dsimp only [List.set, Option.toList, List.cons_append, List.nil_append]
  exact c_common b a ha hb a b none rfl
theorem c_mstretch {d n A B : Nat} {D : Nat → Nat → Int} {what : Int} {w : fw_S} (hd : 1 ≤ d) (h : mA w n D A B) (hA : A ≤ 200) (hB : 1 ≤ B ∧ B ≤ 30) (hw : -2147483648 ≤ what ∧ what ≤ 2147483647) : fw_K d mX8_stretch [.ref 18, .int (iI what)] w (some (.int (iI (((if what = 1 then A else B) / Nat.gcd A B : Nat) : Int)))) w := by
  have h1 := h.1
  have hg0 : 0 < Nat.gcd A B := Nat.gcd_pos_of_pos_right _ hB.1
  have hgB : Nat.gcd A B ≤ B := Nat.gcd_le_right A hB.1
  have hcm := c_mcommon (d := 0) (w := w) (a := A) (b := B) (by omega) (by omega)
  refine fw_K.of (by decide) (Nat.le_of_ble_eq_true rfl) (by simp [Value.category]) (rfl) ?_
  show fw_R _ _ 0 [some (.ref 18), some (.int (iI what))] [] _ _ _
  have fin : ∀ q : Nat, q ≤ 200 → fw_R mX8_stretch d 16 [some (.ref 18), some (.int (iI what))] [.int (iI q)] w (some (.int (iI ((q / Nat.gcd A B : Nat) : Int)))) w := by
    intro q hq
    refine fr_aload_n dX8_stretch_16 rfl ?_
    refine fr_get fX8_stretch_17 h1 rfl ?_
    refine fr_aload_n dX8_stretch_20 rfl ?_
    refine fr_get fX8_stretch_21 h1 rfl ?_
    refine fr_callS kX8_stretch_24 (hcm) (by omega) rfl rfl rfl ?_
    dsimp only [List.set, Option.toList, List.cons_append, List.nil_append]
    refine fr_idiv dX8_stretch_27 (by omega) (by omega) (by omega) ?_
    rw [td_nat]
    exact fr_iret dX8_stretch_28 rfl (rfl) (rfl)
  refine fr_iload_n dX8_stretch_0 rfl ?_
  refine fr_iconst dX8_stretch_1 ?_
  refine fr_icmp_ne (tgt := 12) dX8_stretch_2 (by decide) (by omega) (by omega) (fun c => ?_) (fun c => ?_)
  · rw [if_neg c]
    refine fr_aload_n dX8_stretch_12 rfl ?_
    refine fr_get fX8_stretch_13 h1 rfl ?_
    exact fin B (by omega)
  · rw [if_pos c]
    refine fr_aload_n dX8_stretch_5 rfl ?_
    refine fr_get fX8_stretch_6 h1 rfl ?_
    refine fr_goto (tgt := 16) dX8_stretch_9 (by decide) ?_
    exact fin A hA
/-- the stretch of an order in lowest terms: above (1), else below -/
noncomputable def stP (n : Nat) (D : Nat → Nat → Int) (o : Nat) (what : Int) : Nat := @dite _ (∃ q : Nat × Nat, isST n D (PLs D o n) q.1 q.2) (Classical.propDecidable _) (fun h => (if what = 1 then (Classical.choose h).1 else (Classical.choose h).2) / Nat.gcd (Classical.choose h).1 (Classical.choose h).2) (fun _ => 0)
theorem stP_eq {n o a b : Nat} {D : Nat → Nat → Int} {what : Int} (h : isST n D (PLs D o n) a b) : (if what = 1 then a else b) / Nat.gcd a b = stP n D o what := by
  have hx : ∃ q : Nat × Nat, isST n D (PLs D o n) q.1 q.2 := ⟨(a, b), h⟩
  unfold stP
  rw [dif_pos hx]
  have h2 := Classical.choose_spec hx
  have h3 := low_eq h.1 h2.1 (h.eq h2)
  split
  · exact h3.1
  · exact h3.2
/-- what line asks -/
def lineC (n : Nat) (order i what : Int) : Prop := (0 ≤ order ∧ vOrd n order.toNat) ∧ (0 ≤ what ∧ what ≤ 2) ∧ (what = 0 → 0 ≤ i ∧ i < n)
theorem c_mline {d n A B : Nat} {D : Nat → Nat → Int} {f : Nat → Int} {order i what : Int} {w : fw_S} (hd : 2 ≤ d) (h : mB w n D A B f) (hT : okT n D) (ho : -2147483648 ≤ order ∧ order ≤ 2147483647) (hi : -2147483648 ≤ i ∧ i ≤ 2147483647) (hw : -2147483648 ≤ what ∧ what ≤ 2147483647) (z : Int) (hz : (lineC n order i what → z = if what = 0 then PLs D order.toNat n i.toNat else (stP n D order.toNat what : Int)) ∧ (¬ lineC n order i what → z = -1)) : ∃ (w' : fw_S) (A' B' : Nat) (f' : Nat → Int), fw_K d mX8_line [.ref 18, .int (iI order), .int (iI i), .int (iI what)] w (some (.int (iI z))) w' ∧ mB w' n D A' B' f' ∧ kp w w' (fun k => k = 18 ∨ k = 25) := by
  have h1 := h.1.1
  have hn := h.1.2.2
  obtain ⟨ob, hob⟩ : ∃ ob : Bool, ob = true ↔ (0 ≤ order ∧ vOrd n order.toNat) := by
    by_cases q : 0 ≤ order ∧ vOrd n order.toNat
    · exact ⟨true, fun _ => q, fun _ => rfl⟩
    · exact ⟨false, fun y => (by cases y), fun y => absurd y q⟩
  have hio := c_misOrder (d := 0) h.1 ho ob hob
  have hin := c_in (d := 0) (w := w) (v := what) (lo := 0) (hi := 2) hw (by omega) (by omega)
  have hip := c_misPoint (d := 1) (by omega) h.1 hi
  have r1 := b2_r ob
  have r2 := b2_r (decide (0 ≤ what ∧ what ≤ 2))
  have r3 := b2_r (decide (0 ≤ i ∧ i < (n : Int)))
  by_cases hc : lineC n order i what
  · rw [hz.1 hc]
    obtain ⟨⟨hc0, hv⟩, hcw, hci⟩ := hc
    obtain ⟨o, rfl⟩ := Int.eq_ofNat_of_zero_le hc0
    rw [Int.toNat_natCast] at hv hob ⊢
    obtain ⟨w1, f1, A1, B1, k1, k2, k3, k4, k5⟩ := c_lays (d := 1) (by omega) h hT.1 hT.2.1 hv
    have k21 := k2.1.1
    have k25 := k2.2
    have hst := c_mstretch (d := 1) (what := what) (by omega) k2.1 k4.2.1 ⟨k4.1, k4.2.2.1⟩ hw
    rw [stP_eq k4.is] at hst
    refine ⟨w1, A1, B1, f1, ?_, k2, k5⟩
    have fin : fw_R mX8_line d 31 [some (.ref 18), some (.int (iI o)), some (.int (iI i)), some (.int (iI what))] [] w (some (.int (iI (if what = 0 then PLs D o n i.toNat else (stP n D o what : Int))))) w1 := by
      refine fr_aload_n dX8_line_31 rfl ?_
      refine fr_iload_n dX8_line_32 rfl ?_
      refine fr_callV kX8_line_33 (k1) (by omega) h1 rfl rfl rfl ?_
      dsimp only [List.set, Option.toList, List.cons_append, List.nil_append]
      refine fr_iload_n dX8_line_36 rfl ?_
      refine fr_if_ne (tgt := 49) dX8_line_37 (by decide) (by omega) (fun c => ?_) (fun c => ?_)
      · rw [if_neg c]
        refine fr_aload_n dX8_line_49 rfl ?_
        refine fr_iload_n dX8_line_50 rfl ?_
        refine fr_callV kX8_line_51 (hst) (by omega) k21 rfl rfl rfl ?_
        dsimp only [List.set, Option.toList, List.cons_append, List.nil_append]
        exact fr_iret dX8_line_54 rfl (rfl) (rfl)
      · rw [if_pos c]
        obtain ⟨p, rfl⟩ := Int.eq_ofNat_of_zero_le (hci c).1
        have hpn := (hci c).2
        rw [Int.toNat_natCast, ← k3 p (by omega)]
        refine fr_aload_n dX8_line_40 rfl ?_
        refine fr_get fX8_line_41 k21 rfl ?_
        refine fr_iload_n dX8_line_44 rfl ?_
        refine fr_iald (p) dX8_line_45 k25 (by omega) (by omega) (by decide) ?_
        refine fr_goto (tgt := 54) dX8_line_46 (by decide) ?_
        exact fr_iret dX8_line_54 rfl (rfl) (rfl)
    refine fw_K.of (by decide) (Nat.le_of_ble_eq_true rfl) (by simp [Value.category]) (k5.1) ?_
    show fw_R _ _ 0 [some (.ref 18), some (.int (iI o)), some (.int (iI i)), some (.int (iI what))] [] _ _ _
    refine fr_aload_n dX8_line_0 rfl ?_
    refine fr_iload_n dX8_line_1 rfl ?_
    refine fr_callV kX8_line_2 (hio) (by omega) h1 rfl rfl rfl ?_
    dsimp only [List.set, Option.toList, List.cons_append, List.nil_append]
    refine fr_if_eq (tgt := 29) dX8_line_5 (by decide) (by omega) (fun c1 => ?_) (fun c1 => ?_)
    · rw [hob.mpr ⟨hc0, hv⟩] at c1; exact absurd c1 (by decide)
    refine fr_iload_n dX8_line_8 rfl ?_
    refine fr_iconst dX8_line_9 ?_
    refine fr_iconst dX8_line_10 ?_
    refine fr_callS kX8_line_11 (hin) (by omega) rfl rfl rfl ?_
    dsimp only [List.set, Option.toList, List.cons_append, List.nil_append]
    refine fr_if_eq (tgt := 29) dX8_line_14 (by decide) (by omega) (fun c2 => ?_) (fun c2 => ?_)
    · have c3 := b2_0.mp c2
      simp only [decide_eq_false_iff_not] at c3
      exact absurd hcw c3
    refine fr_iload_n dX8_line_17 rfl ?_
    refine fr_if_ne (tgt := 31) dX8_line_18 (by decide) (by omega) (fun c4 => ?_) (fun c4 => ?_)
    · exact fin
    · refine fr_aload_n dX8_line_21 rfl ?_
      refine fr_iload_n dX8_line_22 rfl ?_
      refine fr_callV kX8_line_23 (hip) (by omega) h1 rfl rfl rfl ?_
      dsimp only [List.set, Option.toList, List.cons_append, List.nil_append]
      refine fr_if_ne (tgt := 31) dX8_line_26 (by decide) (by omega) (fun c5 => ?_) (fun c5 => ?_)
      · exact fin
      · have c6 := b2_0.mp c5
        simp only [decide_eq_false_iff_not] at c6
        exact absurd (hci c4) c6
  · rw [hz.2 hc]
    refine ⟨w, A, B, f, ?_, h, kp.rf⟩
    have bad : fw_R mX8_line d 29 [some (.ref 18), some (.int (iI order)), some (.int (iI i)), some (.int (iI what))] [] w (some (.int (iI (-1)))) w := by
      refine fr_iconst dX8_line_29 ?_
      exact fr_iret dX8_line_30 rfl (rfl) (rfl)
    refine fw_K.of (by decide) (Nat.le_of_ble_eq_true rfl) (by simp [Value.category]) (rfl) ?_
    show fw_R _ _ 0 [some (.ref 18), some (.int (iI order)), some (.int (iI i)), some (.int (iI what))] [] _ _ _
    refine fr_aload_n dX8_line_0 rfl ?_
    refine fr_iload_n dX8_line_1 rfl ?_
    refine fr_callV kX8_line_2 (hio) (by omega) h1 rfl rfl rfl ?_
    dsimp only [List.set, Option.toList, List.cons_append, List.nil_append]
    refine fr_if_eq (tgt := 29) dX8_line_5 (by decide) (by omega) (fun c1 => ?_) (fun c1 => ?_)
    · exact bad
    refine fr_iload_n dX8_line_8 rfl ?_
    refine fr_iconst dX8_line_9 ?_
    refine fr_iconst dX8_line_10 ?_
    refine fr_callS kX8_line_11 (hin) (by omega) rfl rfl rfl ?_
    dsimp only [List.set, Option.toList, List.cons_append, List.nil_append]
    refine fr_if_eq (tgt := 29) dX8_line_14 (by decide) (by omega) (fun c2 => ?_) (fun c2 => ?_)
    · exact bad
    have c3 := b2_n0.mp c2
    simp only [decide_eq_true_eq] at c3
    refine fr_iload_n dX8_line_17 rfl ?_
    refine fr_if_ne (tgt := 31) dX8_line_18 (by decide) (by omega) (fun c4 => ?_) (fun c4 => ?_)
    · exact absurd ⟨hob.mp (b2_n0.mp c1), c3, fun y => absurd y c4⟩ hc
    · refine fr_aload_n dX8_line_21 rfl ?_
      refine fr_iload_n dX8_line_22 rfl ?_
      refine fr_callV kX8_line_23 (hip) (by omega) h1 rfl rfl rfl ?_
      dsimp only [List.set, Option.toList, List.cons_append, List.nil_append]
      refine fr_if_ne (tgt := 31) dX8_line_26 (by decide) (by omega) (fun c5 => ?_) (fun c5 => ?_)
      · have c6 := b2_n0.mp c5
        simp only [decide_eq_true_eq] at c6
        exact absurd ⟨hob.mp (b2_n0.mp c1), c3, fun _ => c6⟩ hc
      · exact bad
theorem c_misLower {d n a b : Nat} {w : fw_S} (hn : n ≤ 6) (ha : vOrd n a) (hb : vOrd n b) (hne : a ≠ b) (q : Bool) (hq : q = true ↔ lex n a b) : fw_K d mX8_isLower [.int (iI a), .int (iI b)] w (some (.int (iI (b2 q)))) w := by
  have hp3 := p3_le (t := n) (by omega)
  have ha1 := ha.1
  have hb1 := hb.1
  have hex : ∃ e, e < n ∧ pAt a e ≠ pAt b e := Classical.byContradiction (fun z => hne (ha.ext hb (fun e he => Classical.byContradiction (fun y => z ⟨e, he, y⟩))))
  obtain ⟨k, ⟨hk, hkd⟩, hkm⟩ := pk_least _ hex
  have heq : ∀ j, j < k → pAt a j = pAt b j := fun j hj => Classical.byContradiction (fun z => hkm j hj ⟨by omega, z⟩)
  have hlx : lex n a b ↔ pAt a k < pAt b k := by
    constructor
    · rintro ⟨k', h1, h2, h3⟩
      rcases Nat.lt_trichotomy k k' with y | y | y
      · exact absurd (h2 k y) hkd
      · rw [y]; exact h3
      · have := heq k' y; omega
    · intro h; exact ⟨k, hk, heq, h⟩
  have pl1 := fun t => pAt_lt a t
  have pl2 := fun t => pAt_lt b t
  refine fw_K.of (by decide) (Nat.le_of_ble_eq_true rfl) (by simp [Value.category]) (rfl) ?_
  show fw_R _ _ 0 [some (.int (iI a)), some (.int (iI b)), none] [] _ _ _
  refine fr_iconst dX8_isLower_0 ?_
  refine fr_istore_n dX8_isLower_1 rfl (by decide) rfl rfl ?_
  dsimp only [List.set, Option.toList, List.cons_append, List.nil_append]
  refine up_loop (fun t => fw_R mX8_isLower d 2 [some (.int (iI a)), some (.int (iI b)), some (.int (iI t))] [] w (some (.int (iI (b2 q)))) w) k ?_ ?_ 0 (Nat.zero_le _)
  · have qa := pA_r (o := a) (t := k) (by omega) (by omega)
    have qb := pA_r (o := b) (t := k) (by omega) (by omega)
    have p1 := pl1 k
    have p2 := pl2 k
    refine fr_iload_n dX8_isLower_2 rfl ?_
    refine fr_iconst dX8_isLower_3 ?_
    refine fr_iload_n dX8_isLower_4 rfl ?_
    refine fr_imul dX8_isLower_5 ?_
    refine fr_ishr (((a / 2 ^ (3 * k) : Nat) : Int)) dX8_isLower_6 (qa.1) ?_
    refine fr_bipush dX8_isLower_7 (by decide) ?_
    refine fr_iand ((pAt a k : Int)) dX8_isLower_9 (qa.2) ?_
    refine fr_iload_n dX8_isLower_10 rfl ?_
    refine fr_iconst dX8_isLower_11 ?_
    refine fr_iload_n dX8_isLower_12 rfl ?_
    refine fr_imul dX8_isLower_13 ?_
    refine fr_ishr (((b / 2 ^ (3 * k) : Nat) : Int)) dX8_isLower_14 (qb.1) ?_
    refine fr_bipush dX8_isLower_15 (by decide) ?_
    refine fr_iand ((pAt b k : Int)) dX8_isLower_17 (qb.2) ?_
    refine fr_icmp_ne (tgt := 27) dX8_isLower_18 (by decide) (by omega) (by omega) (fun c => ?_) (fun c => ?_)
    · refine fr_iload_n dX8_isLower_27 rfl ?_
      refine fr_iconst dX8_isLower_28 ?_
      refine fr_iload_n dX8_isLower_29 rfl ?_
      refine fr_imul dX8_isLower_30 ?_
      refine fr_ishr (((a / 2 ^ (3 * k) : Nat) : Int)) dX8_isLower_31 (qa.1) ?_
      refine fr_bipush dX8_isLower_32 (by decide) ?_
      refine fr_iand ((pAt a k : Int)) dX8_isLower_34 (qa.2) ?_
      refine fr_iload_n dX8_isLower_35 rfl ?_
      refine fr_iconst dX8_isLower_36 ?_
      refine fr_iload_n dX8_isLower_37 rfl ?_
      refine fr_imul dX8_isLower_38 ?_
      refine fr_ishr (((b / 2 ^ (3 * k) : Nat) : Int)) dX8_isLower_39 (qb.1) ?_
      refine fr_bipush dX8_isLower_40 (by decide) ?_
      refine fr_iand ((pAt b k : Int)) dX8_isLower_42 (qb.2) ?_
      refine fr_icmp_ge (tgt := 50) dX8_isLower_43 (by decide) (by omega) (by omega) (fun c2 => ?_) (fun c2 => ?_)
      · have : q = false := by
          cases hqb : q with
          | false => rfl
          | true => have := hlx.mp (hq.mp hqb); omega
        rw [this]
        refine fr_iconst dX8_isLower_50 ?_
        exact fr_zret dX8_isLower_51 rfl (by decide) (rfl) (rfl)
      · rw [hq.mpr (hlx.mpr (by omega))]
        refine fr_iconst dX8_isLower_46 ?_
        refine fr_goto (tgt := 51) dX8_isLower_47 (by decide) ?_
        exact fr_zret dX8_isLower_51 rfl (by decide) (rfl) (rfl)
    · exact absurd (by omega) hkd
  · intro t ht ih
    have qa := pA_r (o := a) (t := t) (by omega) (by omega)
    have qb := pA_r (o := b) (t := t) (by omega) (by omega)
    have p1 := pl1 t
    have p2 := pl2 t
    have he := heq t ht
    refine fr_iload_n dX8_isLower_2 rfl ?_
    refine fr_iconst dX8_isLower_3 ?_
    refine fr_iload_n dX8_isLower_4 rfl ?_
    refine fr_imul dX8_isLower_5 ?_
    refine fr_ishr (((a / 2 ^ (3 * t) : Nat) : Int)) dX8_isLower_6 (qa.1) ?_
    refine fr_bipush dX8_isLower_7 (by decide) ?_
    refine fr_iand ((pAt a t : Int)) dX8_isLower_9 (qa.2) ?_
    refine fr_iload_n dX8_isLower_10 rfl ?_
    refine fr_iconst dX8_isLower_11 ?_
    refine fr_iload_n dX8_isLower_12 rfl ?_
    refine fr_imul dX8_isLower_13 ?_
    refine fr_ishr (((b / 2 ^ (3 * t) : Nat) : Int)) dX8_isLower_14 (qb.1) ?_
    refine fr_bipush dX8_isLower_15 (by decide) ?_
    refine fr_iand ((pAt b t : Int)) dX8_isLower_17 (qb.2) ?_
    refine fr_icmp_ne (tgt := 27) dX8_isLower_18 (by decide) (by omega) (by omega) (fun c => ?_) (fun c => ?_)
    · omega
    · refine fr_iinc dX8_isLower_21 rfl (by decide) rfl rfl ?_
      dsimp only [List.set, Option.toList, List.cons_append, List.nil_append]
      refine fr_goto (tgt := 2) dX8_isLower_24 (by decide) ?_
      exact ih
theorem lex_trans {n a b c : Nat} (h : lex n a b) (h' : lex n b c) : lex n a c := by
  obtain ⟨k, h1, h2, h3⟩ := h
  obtain ⟨k', h1', h2', h3'⟩ := h'
  rcases Nat.lt_trichotomy k k' with y | y | y
  · exact ⟨k, h1, fun j hj => (h2 j hj).trans (h2' j (by omega)), by rw [← h2' k y]; exact h3⟩
  · subst y; exact ⟨k, h1, fun j hj => (h2 j hj).trans (h2' j hj), by omega⟩
  · exact ⟨k', h1', fun j hj => (h2 j (by omega)).trans (h2' j hj), by rw [h2 k' y]; exact h3'⟩
theorem BSt.addM {n : Nat} {D : Nat → Nat → Int} {V : Nat → Prop} {bo : Int} {ba bb A B o : Nat} (h : BSt n D V bo ba bb) (hV : ∀ x, V x → vOrd n x) (ho : vOrd n o) (hst : stI n D (PLs D o n) (fun _ _ => True) A B) :
    ((bo = -4 ∨ A * bb < ba * B ∨ (A * bb = ba * B ∧ ∃ b : Nat, bo = (b : Int) ∧ lex n o b)) → BSt n D (fun x => V x ∨ x = o) (o : Int) A B) ∧ (¬ (bo = -4 ∨ A * bb < ba * B ∨ (A * bb = ba * B ∧ ∃ b : Nat, bo = (b : Int) ∧ lex n o b)) → BSt n D (fun x => V x ∨ x = o) bo ba bb) := by
  have hs := hst.is
  have hB := hst.1
  have self : ∀ a' b', isST n D (PLs D o n) a' b' → A * b' = a' * B := fun a' b' h' => hs.eq h'
  refine ⟨fun z => Or.inr ⟨o, rfl, Or.inr rfl, hs, hst.2.1, hst.2.2.1, fun o' ho' a' b' hs' => ?_⟩, fun z => ?_⟩
  · rcases ho' with ho' | rfl
    · rcases h with ⟨h1, h2⟩ | ⟨o1, h1, h2, h3, h4, h5, h6⟩
      · exact absurd ho' (h2 o')
      · have hbb := h3.1
        have hb' := hs'.1
        have h7 := h6 o' ho' a' b' hs'
        rcases z with z | z | ⟨z, b, z1, z2⟩
        · omega
        · left
          have h7 : ba * b' ≤ a' * bb := by rcases h7 with q | q; exact Nat.le_of_lt q; exact Nat.le_of_eq q.1
          have e1 : A * b' * bb < a' * B * bb := by
            calc A * b' * bb = (A * bb) * b' := Nat.mul_right_comm A b' bb
              _ < (ba * B) * b' := Nat.mul_lt_mul_of_pos_right z (by omega)
              _ = (ba * b') * B := Nat.mul_right_comm ba B b'
              _ ≤ (a' * bb) * B := Nat.mul_le_mul_right B h7
              _ = a' * B * bb := Nat.mul_right_comm a' bb B
          exact Nat.lt_of_mul_lt_mul_right e1
        · have hbo : b = o1 := by omega
          subst hbo
          have e0 : A * b' * bb = (ba * b') * B := by
            calc A * b' * bb = (A * bb) * b' := Nat.mul_right_comm A b' bb
              _ = (ba * B) * b' := by rw [z]
              _ = (ba * b') * B := Nat.mul_right_comm ba B b'
          rcases h7 with h7 | ⟨h7, h8⟩
          · left
            have e1 : A * b' * bb < a' * B * bb := by
              rw [e0]
              calc (ba * b') * B < (a' * bb) * B := Nat.mul_lt_mul_of_pos_right h7 hB
                _ = a' * B * bb := Nat.mul_right_comm a' bb B
            exact Nat.lt_of_mul_lt_mul_right e1
          · right
            have e1 : A * b' * bb = a' * B * bb := by rw [e0, h7]; exact Nat.mul_right_comm a' bb B
            refine ⟨Nat.eq_of_mul_eq_mul_right (by omega) e1, Or.inr ?_⟩
            rcases h8 with h8 | h8
            · rw [← h8]; exact z2
            · exact lex_trans z2 h8
    · exact Or.inr ⟨self a' b' hs', Or.inl rfl⟩
  · rcases h with ⟨h1, h2⟩ | ⟨o1, h1, h2, h3, h4, h5, h6⟩
    · exact absurd (Or.inl h1) z
    · refine Or.inr ⟨o1, h1, Or.inl h2, h3, h4, h5, fun o' ho' a' b' hs' => ?_⟩
      rcases ho' with ho' | rfl
      · exact h6 o' ho' a' b' hs'
      · have h7 : ba * B ≤ A * bb := Nat.not_lt.mp (fun y => z (Or.inr (Or.inl y)))
        have h8 := self a' b' hs'
        have hbb := h3.1
        have e1 : ba * b' * B ≤ a' * bb * B := by
          calc ba * b' * B = (ba * B) * b' := Nat.mul_right_comm ba b' B
            _ ≤ (A * bb) * b' := Nat.mul_le_mul_right b' h7
            _ = (A * b') * bb := Nat.mul_right_comm A bb b'
            _ = (a' * B) * bb := by rw [h8]
            _ = a' * bb * B := Nat.mul_right_comm a' B bb
        have e2 : ba * b' ≤ a' * bb := Nat.le_of_mul_le_mul_right e1 hB
        rcases Nat.lt_or_eq_of_le e2 with q | q
        · exact Or.inl q
        · refine Or.inr ⟨q, ?_⟩
          rcases lex_tri (hV o1 h2) ho with y | y | y
          · exact Or.inl y
          · exact Or.inr y
          · have e3 : A * bb = ba * B := by
              have hb' := hs'.1
              have e4 : A * bb * b' = ba * B * b' := by
                calc A * bb * b' = (A * b') * bb := Nat.mul_right_comm A bb b'
                  _ = (a' * B) * bb := by rw [h8]
                  _ = (a' * bb) * B := Nat.mul_right_comm a' B bb
                  _ = (ba * b') * B := by rw [q]
                  _ = ba * B * b' := Nat.mul_right_comm ba b' B
              exact Nat.eq_of_mul_eq_mul_right (by omega) e4
            exact absurd (Or.inr (Or.inr ⟨e3, o1, h1, y⟩)) z
noncomputable def bestO (n : Nat) (D : Nat → Nat → Int) : Nat := @dite _ (∃ o, isBest n D o) (Classical.propDecidable _) (fun h => Classical.choose h) (fun _ => 0)
theorem bestO_eq {n o : Nat} {D : Nat → Nat → Int} (h : isBest n D o) : bestO n D = o := by
  have hx : ∃ o, isBest n D o := ⟨o, h⟩
  unfold bestO
  rw [dif_pos hx]
  exact (Classical.choose_spec hx).uniq h
noncomputable def bestZ (n : Nat) (D : Nat → Nat → Int) (what : Int) : Int := if 0 ≤ what ∧ what ≤ 2 then (if what = 0 then (bestO n D : Int) else (stP n D (bestO n D) what : Int)) else -1
theorem c_mbest {d n A B : Nat} {D : Nat → Nat → Int} {f : Nat → Int} {what : Int} {w : fw_S} (hd : 2 ≤ d) (h : mB w n D A B f) (hT : okT n D) (hw : -2147483648 ≤ what ∧ what ≤ 2147483647) : ∃ (w' : fw_S) (A' B' : Nat) (f' : Nat → Int), fw_K d mX8_best [.ref 18, .int (iI what)] w (some (.int (iI (bestZ n D what)))) w' ∧ mB w' n D A' B' f' ∧ kp w w' (fun k => k = 18 ∨ k = 25) := by
  have h1 := h.1.1
  have hn := h.1.2.2
  have hin := c_in (d := 0) (w := w) (v := what) (lo := 0) (hi := 2) hw (by omega) (by omega)
  have r2 := b2_r (decide (0 ≤ what ∧ what ≤ 2))
  unfold bestZ
  by_cases hc : 0 ≤ what ∧ what ≤ 2
  rotate_left
  · rw [if_neg hc]
    rw [show decide (0 ≤ what ∧ what ≤ 2) = false by simp only [decide_eq_false_iff_not]; exact hc] at hin
    refine ⟨w, A, B, f, ?_, h, kp.rf⟩
    refine fw_K.of (by decide) (Nat.le_of_ble_eq_true rfl) (by simp [Value.category]) (rfl) ?_
    show fw_R _ _ 0 [some (.ref 18), some (.int (iI what)), none, none, none, none, none] [] _ _ _
    refine fr_iload_n dX8_best_0 rfl ?_
    refine fr_iconst dX8_best_1 ?_
    refine fr_iconst dX8_best_2 ?_
    refine fr_callS kX8_best_3 (hin) (by omega) rfl rfl rfl ?_
    dsimp only [List.set, Option.toList, List.cons_append, List.nil_append]
    refine fr_if_ne (tgt := 11) dX8_best_6 (by decide) (by decide) (fun c => ?_) (fun c => ?_)
    · exact absurd rfl c
    · refine fr_iconst dX8_best_9 ?_
      exact fr_iret dX8_best_10 rfl (rfl) (rfl)
  rw [if_pos hc]
  rw [show decide (0 ≤ what ∧ what ≤ 2) = true by simp only [decide_eq_true_eq]; exact hc] at hin
  have hp3 := p3_le (t := n) (by omega)
  have hsh3 := iI_shl (m := 1) (3 * n) (by rw [Nat.one_mul]; omega) (by omega)
  rw [Nat.one_mul] at hsh3
  have loop := lpE (M := mX8_best) (d := d) (pcH := 21) (2 ^ (3 * n)) (fun x (q : Int × Nat × Nat) => [some (.ref 18), some (.int (iI what)), some (.int (iI (if q.1 = -4 then -1 else q.1))), some (.int (iI q.2.1)), some (.int (iI q.2.2)), some (.int (iI x)), none]) (fun x q v => (∃ (A' B' : Nat) (f' : Nat → Int), mB v n D A' B' f') ∧ BSt n D (fun o => vOrd n o ∧ o < x) q.1 q.2.1 q.2.2 ∧ (q.1 = -4 → q.2.1 = 0 ∧ q.2.2 = 1) ∧ kp w v (fun k => k = 18 ∨ k = 25)) (by
    intro x q v hx ⟨⟨A', B', f', g1⟩, g2, g3, g4⟩
    obtain ⟨bo, ba, bb⟩ := q
    dsimp only at g2 g3
    have g11 := g1.1.1
    have hqr := g2.r (fun o ho => by have := ho.2; omega)
    have hqr2 : ba ≤ 200 ∧ bb ≤ 30 ∧ -4 ≤ bo ∧ bo ≤ 2147483647 := by
      rcases hqr with z | z
      · have := g3 z; omega
      · omega
    obtain ⟨ob, hob⟩ : ∃ ob : Bool, ob = true ↔ (0 ≤ (x : Int) ∧ vOrd n (x : Int).toNat) := by
      by_cases q : 0 ≤ (x : Int) ∧ vOrd n (x : Int).toNat
      · exact ⟨true, fun _ => q, fun _ => rfl⟩
      · exact ⟨false, fun y => (by cases y), fun y => absurd y q⟩
    have hio := c_misOrder (d := 0) (order := (x : Int)) g1.1 (by omega) ob hob
    rw [Int.toNat_natCast] at hob
    have rob := b2_r ob
    by_cases hv : vOrd n x
    · obtain ⟨v1, f1, A1, B1, k1, k2, k3, k4, k5⟩ := c_lays (d := d - 1) (by omega) g1 hT.1 hT.2.1 hv
      have k21 := k2.1.1
      have hadd := g2.addM (fun y hy => hy.1) hv k4
      have hVeq : ∀ o, ((vOrd n o ∧ o < x) ∨ o = x) ↔ (vOrd n o ∧ o < x + 1) := fun o => by
        constructor
        · rintro (⟨y1, y2⟩ | rfl)
          · exact ⟨y1, by omega⟩
          · exact ⟨hv, by omega⟩
        · rintro ⟨y1, y2⟩
          by_cases e : o = x
          · exact Or.inr e
          · exact Or.inl ⟨y1, by omega⟩
      have m1 := nat_mul_r (x := A1) (y := bb) k4.2.1 hqr2.2.1
      have m2 := nat_mul_r (x := ba) (y := B1) hqr2.1 k4.2.2.1
      have e1 : (A1 : Int) * (bb : Int) = ((A1 * bb : Nat) : Int) := by rw [Int.natCast_mul]
      have e2 : (ba : Int) * (B1 : Int) = ((ba * B1 : Nat) : Int) := by rw [Int.natCast_mul]
      have upto : ∀ r w', fw_R mX8_best d 65 [some (.ref 18), some (.int (iI what)), some (.int (iI (if bo = -4 then -1 else bo))), some (.int (iI ba)), some (.int (iI bb)), some (.int (iI x)), some (.int (iI (((A1 * bb : Nat) : Int) - ((ba * B1 : Nat) : Int))))] [] v1 r w' → fw_R mX8_best d 21 [some (.ref 18), some (.int (iI what)), some (.int (iI (if bo = -4 then -1 else bo))), some (.int (iI ba)), some (.int (iI bb)), some (.int (iI x)), none] [] v r w' := by
        intro r w' kk
        refine fr_iload dX8_best_21 rfl ?_
        refine fr_iconst dX8_best_23 ?_
        refine fr_iconst dX8_best_24 ?_
        refine fr_aload_n dX8_best_25 rfl ?_
        refine fr_get fX8_best_26 g11 rfl ?_
        refine fr_imul dX8_best_29 ?_
        rw [show (3 : Int) * (n : Int) = ((3 * n : Nat) : Int) by omega]
        refine fr_ishl (((2 ^ (3 * n) : Nat) : Int)) dX8_best_30 (hsh3) ?_
        generalize 2 ^ (3 * n) = P3 at *
        refine fr_icmp_ge (tgt := 108) dX8_best_31 (by decide) (by omega) (by omega) (fun c => ?_) (fun c => ?_)
        · omega
        refine fr_aload_n dX8_best_34 rfl ?_
        refine fr_iload dX8_best_35 rfl ?_
        refine fr_callV kX8_best_37 (hio) (by omega) g11 rfl rfl rfl ?_
        dsimp only [List.set, Option.toList, List.cons_append, List.nil_append]
        refine fr_if_eq (tgt := 102) dX8_best_40 (by decide) (by omega) (fun c => ?_) (fun c => ?_)
        · rw [hob.mpr ⟨by omega, hv⟩] at c; exact absurd c (by decide)
        refine fr_aload_n dX8_best_43 rfl ?_
        refine fr_iload dX8_best_44 rfl ?_
        refine fr_callV kX8_best_46 (k1) (by omega) g11 rfl rfl rfl ?_
        dsimp only [List.set, Option.toList, List.cons_append, List.nil_append]
        refine fr_aload_n dX8_best_49 rfl ?_
        refine fr_get fX8_best_50 k21 rfl ?_
        refine fr_iload dX8_best_53 rfl ?_
        refine fr_imul dX8_best_55 ?_
        rw [e1]
        refine fr_iload_n dX8_best_56 rfl ?_
        refine fr_aload_n dX8_best_57 rfl ?_
        refine fr_get fX8_best_58 k21 rfl ?_
        refine fr_imul dX8_best_61 ?_
        rw [e2]
        refine fr_isub dX8_best_62 ?_
        refine fr_istore dX8_best_63 (by decide) rfl rfl ?_
        dsimp only [List.set, Option.toList, List.cons_append, List.nil_append]
        exact kk
      by_cases hup : bo = -4 ∨ A1 * bb < ba * B1 ∨ (A1 * bb = ba * B1 ∧ ∃ b : Nat, bo = (b : Int) ∧ lex n x b)
      · refine ⟨((x : Int), A1, B1), v1, ⟨⟨A1, B1, f1, k2⟩, (hadd.1 hup).cg hVeq, fun y => absurd y (by show ¬ ((x : Int) = -4); omega), g4.trans k5⟩, ?_⟩
        intro r w' kk
        simp only [] at kk
        rw [if_neg (show ¬ ((x : Int) = -4) by omega)] at kk
        have take : fw_R mX8_best d 88 [some (.ref 18), some (.int (iI what)), some (.int (iI (if bo = -4 then -1 else bo))), some (.int (iI ba)), some (.int (iI bb)), some (.int (iI x)), some (.int (iI (((A1 * bb : Nat) : Int) - ((ba * B1 : Nat) : Int))))] [] v1 r w' := by
          refine fr_iload dX8_best_88 rfl ?_
          refine fr_istore_n dX8_best_90 rfl (by decide) rfl rfl ?_
          dsimp only [List.set, Option.toList, List.cons_append, List.nil_append]
          refine fr_aload_n dX8_best_91 rfl ?_
          refine fr_get fX8_best_92 k21 rfl ?_
          refine fr_istore_n dX8_best_95 rfl (by decide) rfl rfl ?_
          dsimp only [List.set, Option.toList, List.cons_append, List.nil_append]
          refine fr_aload_n dX8_best_96 rfl ?_
          refine fr_get fX8_best_97 k21 rfl ?_
          refine fr_istore dX8_best_100 (by decide) rfl rfl ?_
          dsimp only [List.set, Option.toList, List.cons_append, List.nil_append]
          refine fr_iinc dX8_best_102 rfl (by decide) rfl rfl ?_
          dsimp only [List.set, Option.toList, List.cons_append, List.nil_append]
          refine fr_goto (tgt := 21) dX8_best_105 (by decide) ?_
          exact kk.wk (by simp [fw_le])
        refine upto r w' ?_
        refine fr_iload_n dX8_best_65 rfl ?_
        have rbo : -2147483648 ≤ (if bo = -4 then -1 else bo) ∧ (if bo = -4 then -1 else bo) ≤ 2147483647 := by split <;> omega
        refine fr_if_lt (tgt := 88) dX8_best_66 (by decide) rbo (fun c => ?_) (fun c => ?_)
        · exact take
        have hbo4 : bo ≠ -4 := fun y => by rw [if_pos y] at c; omega
        rw [if_neg hbo4] at take c ⊢
        refine fr_iload dX8_best_69 rfl ?_
        refine fr_if_lt (tgt := 88) dX8_best_71 (by decide) (by omega) (fun c2 => ?_) (fun c2 => ?_)
        · exact take
        refine fr_iload dX8_best_74 rfl ?_
        refine fr_if_ne (tgt := 102) dX8_best_76 (by decide) (by omega) (fun c3 => ?_) (fun c3 => ?_)
        · rcases hup with y | y | ⟨y, -⟩
          · exact absurd y hbo4
          · omega
          · omega
        rcases hup with y | y | ⟨y, b, y1, y2⟩
        · exact absurd y hbo4
        · omega
        · subst y1
          have hvb : vOrd n b ∧ b < x := by
            rcases g2 with ⟨z1, -⟩ | ⟨o1, z1, z2, -⟩
            · omega
            · rw [show b = o1 by omega]; exact z2
          have hil := c_misLower (d := 0) (w := v1) hn.2 hv hvb.1 (by omega) true (by simp [y2])
          refine fr_iload dX8_best_79 rfl ?_
          refine fr_iload_n dX8_best_81 rfl ?_
          refine fr_callS kX8_best_82 (hil) (by omega) rfl rfl rfl ?_
          dsimp only [List.set, Option.toList, List.cons_append, List.nil_append]
          refine fr_if_eq (tgt := 102) dX8_best_85 (by decide) (by decide) (fun c4 => ?_) (fun c4 => ?_)
          · exact absurd c4 (by decide)
          · exact take
      · refine ⟨(bo, ba, bb), v1, ⟨⟨A1, B1, f1, k2⟩, (hadd.2 hup).cg hVeq, g3, g4.trans k5⟩, ?_⟩
        intro r w' kk
        simp only [] at kk
        have hbo4 : bo ≠ -4 := fun y => hup (Or.inl y)
        rw [if_neg hbo4] at upto kk
        have stay : fw_R mX8_best d 102 [some (.ref 18), some (.int (iI what)), some (.int (iI bo)), some (.int (iI ba)), some (.int (iI bb)), some (.int (iI x)), some (.int (iI (((A1 * bb : Nat) : Int) - ((ba * B1 : Nat) : Int))))] [] v1 r w' := by
          refine fr_iinc dX8_best_102 rfl (by decide) rfl rfl ?_
          dsimp only [List.set, Option.toList, List.cons_append, List.nil_append]
          refine fr_goto (tgt := 21) dX8_best_105 (by decide) ?_
          exact kk.wk (by simp [fw_le])
        simp only []
        rw [if_neg hbo4]
        refine upto r w' ?_
        have hb0 : 0 ≤ bo := by rcases hqr with z | z; exact absurd z hbo4; exact z.1
        refine fr_iload_n dX8_best_65 rfl ?_
        refine fr_if_lt (tgt := 88) dX8_best_66 (by decide) (by omega) (fun c => ?_) (fun c => ?_)
        · omega
        refine fr_iload dX8_best_69 rfl ?_
        refine fr_if_lt (tgt := 88) dX8_best_71 (by decide) (by omega) (fun c2 => ?_) (fun c2 => ?_)
        · exact absurd (Or.inr (Or.inl (by omega))) hup
        refine fr_iload dX8_best_74 rfl ?_
        refine fr_if_ne (tgt := 102) dX8_best_76 (by decide) (by omega) (fun c3 => ?_) (fun c3 => ?_)
        · exact stay
        obtain ⟨b, rfl⟩ := Int.eq_ofNat_of_zero_le hb0
        have hvb : vOrd n b ∧ b < x := by
          rcases g2 with ⟨z1, -⟩ | ⟨o1, z1, z2, -⟩
          · exact absurd z1 hbo4
          · have z1' : (b : Int) = (o1 : Int) := z1
            rw [show b = o1 by omega]; exact z2
        have hil := c_misLower (d := 0) (w := v1) hn.2 hv hvb.1 (by omega) false (by
          constructor
          · intro y; cases y
          · intro y; exact absurd (Or.inr (Or.inr ⟨by omega, b, rfl, y⟩)) hup)
        refine fr_iload dX8_best_79 rfl ?_
        refine fr_iload_n dX8_best_81 rfl ?_
        refine fr_callS kX8_best_82 (hil) (by omega) rfl rfl rfl ?_
        dsimp only [List.set, Option.toList, List.cons_append, List.nil_append]
        refine fr_if_eq (tgt := 102) dX8_best_85 (by decide) (by decide) (fun c4 => ?_) (fun c4 => ?_)
        · exact stay
        · exact absurd rfl c4
    · refine ⟨(bo, ba, bb), v, ⟨⟨A', B', f', g1⟩, g2.cg (fun o => ?_), g3, g4⟩, ?_⟩
      · constructor
        · rintro ⟨y1, y2⟩; exact ⟨y1, by omega⟩
        · rintro ⟨y1, y2⟩
          refine ⟨y1, ?_⟩
          have : o ≠ x := fun e => hv (by rw [← e]; exact y1)
          omega
      · intro r w' kk
        simp only [] at kk ⊢
        refine fr_iload dX8_best_21 rfl ?_
        refine fr_iconst dX8_best_23 ?_
        refine fr_iconst dX8_best_24 ?_
        refine fr_aload_n dX8_best_25 rfl ?_
        refine fr_get fX8_best_26 g11 rfl ?_
        refine fr_imul dX8_best_29 ?_
        rw [show (3 : Int) * (n : Int) = ((3 * n : Nat) : Int) by omega]
        refine fr_ishl (((2 ^ (3 * n) : Nat) : Int)) dX8_best_30 (hsh3) ?_
        generalize 2 ^ (3 * n) = P3 at *
        refine fr_icmp_ge (tgt := 108) dX8_best_31 (by decide) (by omega) (by omega) (fun c => ?_) (fun c => ?_)
        · omega
        refine fr_aload_n dX8_best_34 rfl ?_
        refine fr_iload dX8_best_35 rfl ?_
        refine fr_callV kX8_best_37 (hio) (by omega) g11 rfl rfl rfl ?_
        dsimp only [List.set, Option.toList, List.cons_append, List.nil_append]
        refine fr_if_eq (tgt := 102) dX8_best_40 (by decide) (by omega) (fun c => ?_) (fun c => ?_)
        · refine fr_iinc dX8_best_102 rfl (by decide) rfl rfl ?_
          dsimp only [List.set, Option.toList, List.cons_append, List.nil_append]
          refine fr_goto (tgt := 21) dX8_best_105 (by decide) ?_
          exact kk
        · exact absurd (hob.mp (b2_n0.mp c)).2 hv)
  obtain ⟨⟨bo, ba, bb⟩, w1, ⟨⟨A1, B1, f1, e1⟩, e2, e3, e4⟩, hr⟩ := loop 0 (-4, 0, 1) w (Nat.zero_le _) ⟨⟨A, B, f, h⟩, Or.inl ⟨rfl, fun o ho => absurd ho.2 (Nat.not_lt_zero o)⟩, fun _ => ⟨rfl, rfl⟩, kp.rf⟩
  have e2' : BSt n D (vOrd n) bo ba bb := e2.cg (fun o => ⟨fun y => y.1, fun y => ⟨y, y.1⟩⟩)
  obtain ⟨o, ho⟩ : ∃ o : Nat, bo = (o : Int) := by
    rcases e2' with ⟨z1, z2⟩ | ⟨o, z1, -⟩
    · obtain ⟨o, ho⟩ := vOrd_ex n (by omega) hn.1
      exact absurd ho (z2 o)
    · exact ⟨o, z1⟩
  subst ho
  have hbest : isBest n D o := ⟨ba, bb, e2'⟩
  have hov := hbest.v
  have ho1 := hov.1
  rw [bestO_eq hbest]
  obtain ⟨w2, f2, A2, B2, k1, k2, k3, k4, k5⟩ := c_lays (d := d - 1) (by omega) e1 hT.1 hT.2.1 hov
  have hst := c_mstretch (d := d - 1) (what := what) (by omega) k2.1 k4.2.1 ⟨k4.1, k4.2.2.1⟩ hw
  rw [stP_eq k4.is] at hst
  have e11 := e1.1.1
  have k21 := k2.1.1
  refine ⟨w2, A2, B2, f2, ?_, k2, e4.trans k5⟩
  refine fw_K.of (by decide) (Nat.le_of_ble_eq_true rfl) (by simp [Value.category]) ((e4.trans k5).1) ?_
  show fw_R _ _ 0 [some (.ref 18), some (.int (iI what)), none, none, none, none, none] [] _ _ _
  refine fr_iload_n dX8_best_0 rfl ?_
  refine fr_iconst dX8_best_1 ?_
  refine fr_iconst dX8_best_2 ?_
  refine fr_callS kX8_best_3 (hin) (by omega) rfl rfl rfl ?_
  dsimp only [List.set, Option.toList, List.cons_append, List.nil_append]
  refine fr_if_ne (tgt := 11) dX8_best_6 (by decide) (by decide) (fun c => ?_) (fun c => ?_)
  rotate_left
  · exact absurd c (by decide)
  refine fr_iconst dX8_best_11 ?_
  refine fr_istore_n dX8_best_12 rfl (by decide) rfl rfl ?_
  dsimp only [List.set, Option.toList, List.cons_append, List.nil_append]
  refine fr_iconst dX8_best_13 ?_
  refine fr_istore_n dX8_best_14 rfl (by decide) rfl rfl ?_
  dsimp only [List.set, Option.toList, List.cons_append, List.nil_append]
  refine fr_iconst dX8_best_15 ?_
  refine fr_istore dX8_best_16 (by decide) rfl rfl ?_
  dsimp only [List.set, Option.toList, List.cons_append, List.nil_append]
  refine fr_iconst dX8_best_18 ?_
  refine fr_istore dX8_best_19 (by decide) rfl rfl ?_
  dsimp only [List.set, Option.toList, List.cons_append, List.nil_append]
  refine hr _ _ ?_
  simp only []
  rw [if_neg (show ¬ ((o : Int) = -4) by omega)]
  refine fr_iload dX8_best_21 rfl ?_
  refine fr_iconst dX8_best_23 ?_
  refine fr_iconst dX8_best_24 ?_
  refine fr_aload_n dX8_best_25 rfl ?_
  refine fr_get fX8_best_26 e11 rfl ?_
  refine fr_imul dX8_best_29 ?_
  rw [show (3 : Int) * (n : Int) = ((3 * n : Nat) : Int) by omega]
  refine fr_ishl (((2 ^ (3 * n) : Nat) : Int)) dX8_best_30 (hsh3) ?_
  generalize 2 ^ (3 * n) = P3 at *
  refine fr_icmp_ge (tgt := 108) dX8_best_31 (by decide) (by omega) (by omega) (fun c2 => ?_) (fun c2 => ?_)
  rotate_left
  · omega
  refine fr_aload_n dX8_best_108 rfl ?_
  refine fr_iload_n dX8_best_109 rfl ?_
  refine fr_callV kX8_best_110 (k1) (by omega) e11 rfl rfl rfl ?_
  dsimp only [List.set, Option.toList, List.cons_append, List.nil_append]
  refine fr_iload_n dX8_best_113 rfl ?_
  refine fr_if_ne (tgt := 121) dX8_best_114 (by decide) (by omega) (fun c3 => ?_) (fun c3 => ?_)
  · rw [if_neg c3]
    refine fr_aload_n dX8_best_121 rfl ?_
    refine fr_iload_n dX8_best_122 rfl ?_
    refine fr_callV kX8_best_123 (hst) (by omega) k21 rfl rfl rfl ?_
    dsimp only [List.set, Option.toList, List.cons_append, List.nil_append]
    exact fr_iret dX8_best_126 rfl (rfl) (rfl)
  · rw [if_pos c3]
    refine fr_iload_n dX8_best_117 rfl ?_
    refine fr_goto (tgt := 126) dX8_best_118 (by decide) ?_
    exact fr_iret dX8_best_126 rfl (rfl) (rfl)
