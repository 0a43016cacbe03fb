/-! Layout: stretchPart, keepIfBetter, tryOrders, leastStretched -/
theorem tm_nat (a b : Nat) : (a : Int).tmod (b : Int) = ((a % b : Nat) : Int) := (Int.ofNat_tmod a b).symm
theorem td_nat (a b : Nat) : (a : Int).tdiv (b : Int) = ((a / b : Nat) : Int) := (Int.ofNat_tdiv a b).symm
theorem c_stretchPart {d n A B ba bb : Nat} {bo what : Int} {D : Nat → Nat → Int} {f : Nat → Int} {w : fw_S} (h : LA w n D f A B bo ba bb) (hA : A ≤ 200) (hB : 1 ≤ B ∧ B ≤ 30) (hw : -2147483648 ≤ what ∧ what ≤ 2147483647) : fw_K d mX2_stretchPart [.ref 13, .int (iI what)] w (some (.int (iI (((if what = 1 then A else B) / Nat.gcd A B : Nat) : Int)))) w := by
  have h1 := h.1
  have hg0 : 0 < Nat.gcd A B := Nat.gcd_pos_of_pos_right _ hB.1
  have hgB : Nat.gcd A B ≤ B := Nat.gcd_le_right A hB.1
  obtain ⟨part, hpart⟩ : ∃ p, p = (if what = 1 then A else B) := ⟨_, rfl⟩
  rw [← hpart]
  have hp : part ≤ 200 := by rw [hpart]; split <;> omega
  have loop : ∀ q : Nat, q ≤ B → (∀ k, q < k → k ≤ B → ¬ (A % k = 0 ∧ B % k = 0)) → fw_R mX2_stretchPart d 22 [some (.ref 13), some (.int (iI what)), some (.int (iI part)), some (.int (iI q))] [] w (some (.int (iI ((part / Nat.gcd A B : Nat) : Int)))) w := by
    intro q
    induction q with
    | zero =>
      intro _ hno
      exact absurd ⟨Nat.mod_eq_zero_of_dvd (Nat.gcd_dvd_left A B), Nat.mod_eq_zero_of_dvd (Nat.gcd_dvd_right A B)⟩ (hno _ hg0 hgB)
    | succ q ih =>
      intro hq hno
      have hgq : Nat.gcd A B ≤ q + 1 := by
        rcases Nat.lt_or_ge (q + 1) (Nat.gcd A B) with z | z
        · exact absurd ⟨Nat.mod_eq_zero_of_dvd (Nat.gcd_dvd_left A B), Nat.mod_eq_zero_of_dvd (Nat.gcd_dvd_right A B)⟩ (hno _ z hgB)
        · exact z
      have stay : ¬ (A % (q + 1) = 0 ∧ B % (q + 1) = 0) → fw_R mX2_stretchPart d 49 [some (.ref 13), some (.int (iI what)), some (.int (iI part)), some (.int (iI ((q + 1 : Nat) : Int)))] [] w (some (.int (iI ((part / Nat.gcd A B : Nat) : Int)))) w := by
        intro z
        refine fr_iinc dX2_stretchPart_49 rfl (by decide) rfl rfl ?_
        dsimp only [List.set, Option.toList, List.cons_append, List.nil_append]
        refine fr_goto (tgt := 22) dX2_stretchPart_52 (by decide) ?_
        rw [show ((q + 1 : Nat) : Int) + -1 = (q : Int) by omega]
        exact ih (by omega) (fun k h1 h2 => by
          by_cases e : k = q + 1
          · subst e; exact z
          · exact hno k (by omega) h2)
      have hm1 := Nat.mod_lt A (show 0 < q + 1 by omega)
      have hm2 := Nat.mod_lt B (show 0 < q + 1 by omega)
      refine fr_iload_n dX2_stretchPart_22 rfl ?_
      refine fr_iconst dX2_stretchPart_23 ?_
      refine fr_icmp_le (tgt := 55) dX2_stretchPart_24 (by decide) (by omega) (by omega) (fun c => ?_) (fun c => ?_)
      · have : Nat.gcd A B = 1 := by omega
        rw [this, Nat.div_one]
        refine fr_iload_n dX2_stretchPart_55 rfl ?_
        exact fr_iret dX2_stretchPart_56 rfl (rfl) (rfl)
      · refine fr_aload_n dX2_stretchPart_27 rfl ?_
        refine fr_get fX2_stretchPart_28 h1 rfl ?_
        refine fr_iload_n dX2_stretchPart_31 rfl ?_
        refine fr_irem dX2_stretchPart_32 (by omega) (by omega) (by omega) ?_
        rw [tm_nat]
        refine fr_if_ne (tgt := 49) dX2_stretchPart_33 (by decide) (by omega) (fun c2 => ?_) (fun c2 => ?_)
        · exact stay (fun z => c2 (by rw [z.1]; rfl))
        · refine fr_aload_n dX2_stretchPart_36 rfl ?_
          refine fr_get fX2_stretchPart_37 h1 rfl ?_
          refine fr_iload_n dX2_stretchPart_40 rfl ?_
          refine fr_irem dX2_stretchPart_41 (by omega) (by omega) (by omega) ?_
          rw [tm_nat]
          refine fr_if_ne (tgt := 49) dX2_stretchPart_42 (by decide) (by omega) (fun c3 => ?_) (fun c3 => ?_)
          · exact stay (fun z => c3 (by rw [z.2]; rfl))
          · have e1 : A % (q + 1) = 0 := by omega
            have e2 : B % (q + 1) = 0 := by omega
            have e3 : q + 1 ∣ Nat.gcd A B := Nat.dvd_gcd (Nat.dvd_of_mod_eq_zero e1) (Nat.dvd_of_mod_eq_zero e2)
            have e4 := Nat.le_of_dvd hg0 e3
            refine fr_iload_n dX2_stretchPart_45 rfl ?_
            refine fr_iload_n dX2_stretchPart_46 rfl ?_
            refine fr_idiv dX2_stretchPart_47 (by omega) (by omega) (by omega) ?_
            rw [td_nat, show q + 1 = Nat.gcd A B by omega]
            exact fr_iret dX2_stretchPart_48 rfl (rfl) (rfl)
  have fin : fw_R mX2_stretchPart d 16 [some (.ref 13), some (.int (iI what)), none, none] [.int (iI part)] w (some (.int (iI ((part / Nat.gcd A B : Nat) : Int)))) w := by
    refine fr_istore_n dX2_stretchPart_16 rfl (by decide) rfl rfl ?_
    dsimp only [List.set, Option.toList, List.cons_append, List.nil_append]
    refine fr_aload_n dX2_stretchPart_17 rfl ?_
    refine fr_get fX2_stretchPart_18 h1 rfl ?_
    refine fr_istore_n dX2_stretchPart_21 rfl (by decide) rfl rfl ?_
    dsimp only [List.set, Option.toList, List.cons_append, List.nil_append]
    exact loop B (Nat.le_refl B) (fun k h1 h2 => by omega)
  refine fw_K.of (by decide) (Nat.le_of_ble_eq_true rfl) (by simp [Value.category]) (rfl) ?_
  show fw_R _ _ 0 [some (.ref 13), some (.int (iI what)), none, none] [] _ _ _
  refine fr_iload_n dX2_stretchPart_0 rfl ?_
  refine fr_iconst dX2_stretchPart_1 ?_
  refine fr_icmp_ne (tgt := 12) dX2_stretchPart_2 (by decide) (by omega) (by omega) (fun c => ?_) (fun c => ?_)
  · rw [if_neg c] at hpart
    rw [hpart] at fin ⊢
    refine fr_aload_n dX2_stretchPart_12 rfl ?_
    refine fr_get fX2_stretchPart_13 h1 rfl ?_
    exact fin
  · rw [if_pos c] at hpart
    rw [hpart] at fin ⊢
    refine fr_aload_n dX2_stretchPart_5 rfl ?_
    refine fr_get fX2_stretchPart_6 h1 rfl ?_
    refine fr_goto (tgt := 16) dX2_stretchPart_9 (by decide) ?_
    exact fin
/-- of the orders V gone through: none yet, or bo stretches least, with ba above and bb below; of several the one whose points are lower -/
def BSt (n : Nat) (D : Nat → Nat → Int) (V : Nat → Prop) (bo : Int) (ba bb : Nat) : Prop := (bo = -4 ∧ ∀ o, ¬ V o) ∨ (∃ o : Nat, bo = (o : Int) ∧ V o ∧ isST n D (PLs D o n) ba bb ∧ ba ≤ 200 ∧ bb ≤ 30 ∧ ∀ o', V o' → ∀ a' b', isST n D (PLs D o' n) a' b' → ba * b' < a' * bb ∨ (ba * b' = a' * bb ∧ (o = o' ∨ lex n o o')))
theorem BSt.cg {n : Nat} {D : Nat → Nat → Int} {V V' : Nat → Prop} {bo : Int} {ba bb : Nat} (h : BSt n D V bo ba bb) (hV : ∀ o, V o ↔ V' o) : BSt n D V' bo ba bb := by
  have : V = V' := funext fun o => propext (hV o)
  rw [← this]; exact h
theorem BSt.add {n : Nat} {D : Nat → Nat → Int} {V : Nat → Prop} {bo : Int} {ba bb A B o : Nat} (h : BSt n D V bo ba bb) (hst : stI n D (PLs D o n) (fun _ _ => True) A B) (hlex : ∀ o', V o' → lex n o' o) :
    (bo = -4 ∨ A * bb < ba * B → BSt n D (fun x => V x ∨ x = o) (o : Int) A B) ∧ (¬ (bo = -4 ∨ A * bb < ba * B) → BSt n D (fun x => V x ∨ x = o) bo ba bb) := by
  have hs := hst.is
  have hB := hst.1
  have self : ∀ a' b', isST n D (PLs D o n) a' b' → A * b' = a' * B := fun a' b' h' => hs.eq h'
  refine ⟨fun z => Or.inr ⟨o, rfl, Or.inr rfl, hs, hst.2.1, hst.2.2.1, fun o' ho' a' b' hs' => ?_⟩, fun z => ?_⟩
  · rcases ho' with ho' | rfl
    · rcases h with ⟨h1, h2⟩ | ⟨o1, h1, h2, h3, h4, h5, h6⟩
      · exact absurd ho' (h2 o')
      · rcases z with z | z
        · omega
        · left
          have h7 : ba * b' ≤ a' * bb := by rcases h6 o' ho' a' b' hs' with q | q; exact Nat.le_of_lt q; exact Nat.le_of_eq q.1
          have hbb := h3.1
          have hb' := hs'.1
          have e1 : A * b' * bb < a' * B * bb := by
            calc A * b' * bb = (A * bb) * b' := Nat.mul_right_comm A b' bb
              _ < (ba * B) * b' := Nat.mul_lt_mul_of_pos_right z (by omega)
              _ = (ba * b') * B := Nat.mul_right_comm ba B b'
              _ ≤ (a' * bb) * B := Nat.mul_le_mul_right B h7
              _ = a' * B * bb := Nat.mul_right_comm a' bb B
          exact Nat.lt_of_mul_lt_mul_right e1
    · exact Or.inr ⟨self a' b' hs', Or.inl rfl⟩
  · rcases h with ⟨h1, h2⟩ | ⟨o1, h1, h2, h3, h4, h5, h6⟩
    · exact absurd (Or.inl h1) z
    · refine Or.inr ⟨o1, h1, Or.inl h2, h3, h4, h5, fun o' ho' a' b' hs' => ?_⟩
      rcases ho' with ho' | rfl
      · exact h6 o' ho' a' b' hs'
      · have h7 : ba * B ≤ A * bb := Nat.not_lt.mp (fun y => z (Or.inr y))
        have h8 := self a' b' hs'
        have e1 : ba * b' * B ≤ a' * bb * B := by
          calc ba * b' * B = (ba * B) * b' := Nat.mul_right_comm ba b' B
            _ ≤ (A * bb) * b' := Nat.mul_le_mul_right b' h7
            _ = (A * b') * bb := Nat.mul_right_comm A bb b'
            _ = (a' * B) * bb := by rw [h8]
            _ = a' * bb * B := Nat.mul_right_comm a' B bb
        have e2 : ba * b' ≤ a' * bb := Nat.le_of_mul_le_mul_right e1 hB
        rcases Nat.lt_or_eq_of_le e2 with q | q
        · exact Or.inl q
        · exact Or.inr ⟨q, Or.inr (hlex o1 h2)⟩
theorem nat_mul_r {x y c e : Nat} (hx : x ≤ c) (hy : y ≤ e) : x * y ≤ c * e := Nat.mul_le_mul hx hy
theorem c_keepIfBetter {d n A B ba bb o : Nat} {bo : Int} {D : Nat → Nat → Int} {f : Nat → Int} {w : fw_S} {V : Nat → Prop} (h : LA w n D f A B bo ba bb) (hA : A ≤ 200 ∧ B ≤ 30) (hb : bo = -4 ∨ (0 ≤ bo ∧ bo ≤ 2147483647 ∧ ba ≤ 200 ∧ bb ≤ 30)) : ∃ (w' : fw_S) (bo' : Int) (ba' bb' : Nat), fw_K d mX2_keepIfBetter [.ref 13, .int (iI o)] w none w' ∧ LA w' n D f A B bo' ba' bb' ∧ kp w w' (fun k => k = 13) ∧ ((bo = -4 ∨ A * bb < ba * B) → bo' = (o : Int) ∧ ba' = A ∧ bb' = B) ∧ (¬ (bo = -4 ∨ A * bb < ba * B) → bo' = bo ∧ ba' = ba ∧ bb' = bb) := by
  have h1 := h.1
  by_cases z : bo = -4 ∨ A * bb < ba * B
  · have u1 := h.up A B o ba bb
    have u2 := u1.up A B o A bb
    have u3 := u2.up A B o A B
    refine ⟨_, o, A, B, ?_, u3, ((kp.up _ _ _).trans (kp.up _ _ _)).trans (kp.up _ _ _), fun _ => ⟨rfl, rfl, rfl⟩, fun y => absurd z y⟩
    have u11 := u1.1
    have u21 := u2.1
    refine fw_K.of (by decide) (Nat.le_of_ble_eq_true rfl) (by simp [Value.category]) (rfl) ?_
    show fw_R _ _ 0 [some (.ref 13), some (.int (iI o))] [] _ _ _
    have fin : fw_R mX2_keepIfBetter d 30 [some (.ref 13), some (.int (iI o))] [] w none (fw_up (fw_up (fw_up w 13 (.inl (2, [.ref 1, .ref 14, .int (iI A), .int (iI B), .int (iI o), .int (iI ba), .int (iI bb)]))) 13 (.inl (2, [.ref 1, .ref 14, .int (iI A), .int (iI B), .int (iI o), .int (iI A), .int (iI bb)]))) 13 (.inl (2, [.ref 1, .ref 14, .int (iI A), .int (iI B), .int (iI o), .int (iI A), .int (iI B)]))) := by
      refine fr_aload_n dX2_keepIfBetter_30 rfl ?_
      refine fr_iload_n dX2_keepIfBetter_31 rfl ?_
      refine fr_put fX2_keepIfBetter_32 pfX2_4 h1 (by simp) rfl ?_
      dsimp only [List.set, Option.toList, List.cons_append, List.nil_append]
      refine fr_aload_n dX2_keepIfBetter_35 rfl ?_
      refine fr_aload_n dX2_keepIfBetter_36 rfl ?_
      refine fr_get fX2_keepIfBetter_37 u11 rfl ?_
      refine fr_put fX2_keepIfBetter_40 pfX2_5 u11 (by simp) rfl ?_
      dsimp only [List.set, Option.toList, List.cons_append, List.nil_append]
      refine fr_aload_n dX2_keepIfBetter_43 rfl ?_
      refine fr_aload_n dX2_keepIfBetter_44 rfl ?_
      refine fr_get fX2_keepIfBetter_45 u21 rfl ?_
      refine fr_put fX2_keepIfBetter_48 pfX2_6 u21 (by simp) rfl ?_
      dsimp only [List.set, Option.toList, List.cons_append, List.nil_append]
      exact fr_vret dX2_keepIfBetter_51 rfl rfl (rfl)
    refine fr_aload_n dX2_keepIfBetter_0 rfl ?_
    refine fr_get fX2_keepIfBetter_1 h1 rfl ?_
    refine fr_bipush dX2_keepIfBetter_4 (by decide) ?_
    refine fr_icmp_eq (tgt := 30) dX2_keepIfBetter_6 (by decide) (by omega) (by omega) (fun c => ?_) (fun c => ?_)
    · exact fin
    · rcases hb with hb | hb
      · exact absurd hb c
      have m1 := nat_mul_r (x := A) (y := bb) hA.1 hb.2.2.2
      have m2 := nat_mul_r (x := ba) (y := B) hb.2.2.1 hA.2
      refine fr_aload_n dX2_keepIfBetter_9 rfl ?_
      refine fr_get fX2_keepIfBetter_10 h1 rfl ?_
      refine fr_aload_n dX2_keepIfBetter_13 rfl ?_
      refine fr_get fX2_keepIfBetter_14 h1 rfl ?_
      refine fr_imul dX2_keepIfBetter_17 ?_
      refine fr_aload_n dX2_keepIfBetter_18 rfl ?_
      refine fr_get fX2_keepIfBetter_19 h1 rfl ?_
      refine fr_aload_n dX2_keepIfBetter_22 rfl ?_
      refine fr_get fX2_keepIfBetter_23 h1 rfl ?_
      refine fr_imul dX2_keepIfBetter_26 ?_
      rw [show (A : Int) * (bb : Int) = ((A * bb : Nat) : Int) by rw [Int.natCast_mul], show (ba : Int) * (B : Int) = ((ba * B : Nat) : Int) by rw [Int.natCast_mul]]
      refine fr_icmp_ge (tgt := 51) dX2_keepIfBetter_27 (by decide) (by omega) (by omega) (fun c2 => ?_) (fun c2 => ?_)
      · omega
      · exact fin
  · rcases hb with hb | hb
    · exact absurd (Or.inl hb) z
    have m1 := nat_mul_r (x := A) (y := bb) hA.1 hb.2.2.2
    have m2 := nat_mul_r (x := ba) (y := B) hb.2.2.1 hA.2
    refine ⟨w, bo, ba, bb, ?_, h, kp.rf, fun y => absurd y z, fun _ => ⟨rfl, rfl, rfl⟩⟩
    refine fw_K.of (by decide) (Nat.le_of_ble_eq_true rfl) (by simp [Value.category]) (rfl) ?_
    show fw_R _ _ 0 [some (.ref 13), some (.int (iI o))] [] _ _ _
    refine fr_aload_n dX2_keepIfBetter_0 rfl ?_
    refine fr_get fX2_keepIfBetter_1 h1 rfl ?_
    refine fr_bipush dX2_keepIfBetter_4 (by decide) ?_
    refine fr_icmp_eq (tgt := 30) dX2_keepIfBetter_6 (by decide) (by omega) (by omega) (fun c => ?_) (fun c => ?_)
    · exact absurd (Or.inl c) z
    · refine fr_aload_n dX2_keepIfBetter_9 rfl ?_
      refine fr_get fX2_keepIfBetter_10 h1 rfl ?_
      refine fr_aload_n dX2_keepIfBetter_13 rfl ?_
      refine fr_get fX2_keepIfBetter_14 h1 rfl ?_
      refine fr_imul dX2_keepIfBetter_17 ?_
      refine fr_aload_n dX2_keepIfBetter_18 rfl ?_
      refine fr_get fX2_keepIfBetter_19 h1 rfl ?_
      refine fr_aload_n dX2_keepIfBetter_22 rfl ?_
      refine fr_get fX2_keepIfBetter_23 h1 rfl ?_
      refine fr_imul dX2_keepIfBetter_26 ?_
      rw [show (A : Int) * (bb : Int) = ((A * bb : Nat) : Int) by rw [Int.natCast_mul], show (ba : Int) * (B : Int) = ((ba * B : Nat) : Int) by rw [Int.natCast_mul]]
      refine fr_icmp_ge (tgt := 51) dX2_keepIfBetter_27 (by decide) (by omega) (by omega) (fun c2 => ?_) (fun c2 => ?_)
      · exact fr_vret dX2_keepIfBetter_51 rfl rfl (rfl)
      · omega
def preO (t x o : Nat) : Prop := ∀ e, e < t → pAt o e = pAt x e
theorem BSt.r {n : Nat} {D : Nat → Nat → Int} {V : Nat → Prop} {bo : Int} {ba bb : Nat} (h : BSt n D V bo ba bb) (hV : ∀ o, V o → o ≤ 2147483647) : bo = -4 ∨ (0 ≤ bo ∧ bo ≤ 2147483647 ∧ ba ≤ 200 ∧ bb ≤ 30) := by
  rcases h with ⟨h1, -⟩ | ⟨o, h1, h2, h3, h4, h5, -⟩
  · exact Or.inl h1
  · have := hV o h2
    exact Or.inr ⟨by omega, by omega, h4, h5⟩
theorem or_add {x p t : Nat} (hx : x < 2 ^ (3 * t)) : x ||| p * 2 ^ (3 * t) = x + p * 2 ^ (3 * t) := by
  rw [Nat.or_comm, Nat.mul_comm p, ← Nat.two_pow_add_eq_or_of_lt hx, Nat.add_comm]
theorem c_tryOrders {n : Nat} {D : Nat → Nat → Int} (hD : okR n D 30) : ∀ (r t x : Nat) (V : Nat → Prop) (w : fw_S) (f : Nat → Int) (A B ba bb : Nat) (bo : Int), t + r = n → x < 2 ^ (3 * t) → (∀ e, e < t → pAt x e < n) → (∀ e e', e < e' → e' < t → pAt x e ≠ pAt x e') → (∀ o, V o → vOrd n o) → (∀ o', V o' → ∀ c, vOrd n c → preO t x c → lex n o' c) → LA w n D f A B bo ba bb → BSt n D V bo ba bb →
    ∃ (w' : fw_S) (f' : Nat → Int) (A' B' ba' bb' : Nat) (bo' : Int), fw_K (r + 4) mX2_tryOrders [.ref 13, .int (iI t), .int (iI (msk x t)), .int (iI x)] w none w' ∧ LA w' n D f' A' B' bo' ba' bb' ∧ BSt n D (fun o => V o ∨ (vOrd n o ∧ preO t x o)) bo' ba' bb' ∧ kp w w' (fun k => k = 13 ∨ k = 14) := by
  intro r
  induction r with
  | zero =>
    intro t x V w f A B ba bb bo htn hx hdg hdi hV hlex hLA hB
    have hn := hLA.2.1.2.2
    have e0 : t = n := by omega
    subst e0
    have hp3 := p3_le (t := t) (by omega)
    have hvx : vOrd t x := vOrd.of hx hdg hdi
    obtain ⟨w1, f1, A1, B1, k1, k2, k3, k4, k5⟩ := c_lay (d := 3) (by omega) hLA hD hvx
    obtain ⟨w2, bo2, ba2, bb2, j1, j2, j3, j4, j5⟩ := c_keepIfBetter (d := 0) (o := x) (V := V) k2 ⟨k4.2.1, k4.2.2.1⟩ (hB.r (fun o ho => by have := (hV o ho).1; omega))
    have hadd := hB.add k4 (fun o' ho' => hlex o' ho' x hvx (fun e _ => rfl))
    refine ⟨w2, f1, A1, B1, ba2, bb2, bo2, ?_, j2, ?_, k5.trans (j3.mono (fun k hk => Or.inl hk))⟩
    · have h1 := hLA.1
      have h3 := hLA.2.1.1
      have k21 := k2.1
      refine fw_K.of (by decide) (Nat.le_of_ble_eq_true rfl) (by simp [Value.category]) ((k5.trans (j3.mono (fun k hk => Or.inl hk))).1) ?_
      show fw_R _ _ 0 [some (.ref 13), some (.int (iI t)), some (.int (iI (msk x t))), some (.int (iI x)), none] [] _ _ _
      refine fr_iload_n dX2_tryOrders_0 rfl ?_
      refine fr_aload_n dX2_tryOrders_1 rfl ?_
      refine fr_get fX2_tryOrders_2 h1 rfl ?_
      refine fr_get fX2_tryOrders_5 h3 rfl ?_
      refine fr_icmp_lt (tgt := 22) dX2_tryOrders_8 (by decide) (by omega) (by omega) (fun c => ?_) (fun c => ?_)
      · omega
      · refine fr_aload_n dX2_tryOrders_11 rfl ?_
        refine fr_iload_n dX2_tryOrders_12 rfl ?_
        refine fr_callV kX2_tryOrders_13 (k1) (by omega) h1 rfl rfl rfl ?_
        dsimp only [List.set, Option.toList, List.cons_append, List.nil_append]
        refine fr_aload_n dX2_tryOrders_16 rfl ?_
        refine fr_iload_n dX2_tryOrders_17 rfl ?_
        refine fr_callV kX2_tryOrders_18 (j1) (by omega) k21 rfl rfl rfl ?_
        dsimp only [List.set, Option.toList, List.cons_append, List.nil_append]
        exact fr_vret dX2_tryOrders_21 rfl rfl (rfl)
    · have hV2 : ∀ o, (V o ∨ o = x) ↔ (V o ∨ (vOrd t o ∧ preO t x o)) := fun o => by
        constructor
        · rintro (q | rfl)
          · exact Or.inl q
          · exact Or.inr ⟨hvx, fun e _ => rfl⟩
        · rintro (q | ⟨q1, q2⟩)
          · exact Or.inl q
          · exact Or.inr (q1.ext hvx (fun e he => q2 e he))
      by_cases z : bo = -4 ∨ A1 * bb < ba * B1
      · obtain ⟨rfl, rfl, rfl⟩ := j4 z
        exact (hadd.1 z).cg hV2
      · obtain ⟨rfl, rfl, rfl⟩ := j5 z
        exact (hadd.2 z).cg hV2
  | succ r ih =>
    intro t x V w f A B ba bb bo htn hx hdg hdi hV hlex hLA hB
    have hn := hLA.2.1.2.2
    have hp3 := p3_le (t := t) (by omega)
    have hp5 : 2 ^ (3 * t) ≤ 2 ^ 15 := Nat.pow_le_pow_right (by decide) (by omega)
    have hm := msk_lt x t
    have loop := lpE (M := mX2_tryOrders) (d := r + 5) (pcH := 25) n (fun p _ => [some (.ref 13), some (.int (iI t)), some (.int (iI (msk x t))), some (.int (iI x)), some (.int (iI p))]) (fun p (_ : Unit) v => (∃ (g : Nat → Int) (A' B' ba' bb' : Nat) (bo' : Int), LA v n D g A' B' bo' ba' bb' ∧ BSt n D (fun o => V o ∨ (vOrd n o ∧ preO t x o ∧ pAt o t < p)) bo' ba' bb') ∧ kp w v (fun k => k = 13 ∨ k = 14)) (by
      intro p _ v hp ⟨⟨g, A', B', ba', bb', bo', g1, g2⟩, g3⟩
      have g11 := g1.1
      have g13 := g1.2.1.1
      have rb := b2_r ((msk x t).testBit p)
      cases hb : (msk x t).testBit p with
      | true =>
        obtain ⟨e, he, hpe⟩ := (msk_bit x p t).mp hb
        refine ⟨(), v, ⟨⟨g, A', B', ba', bb', bo', g1, g2.cg (fun o => ?_)⟩, g3⟩, ?_⟩
        · constructor
          · rintro (q | ⟨q1, q2, q3⟩)
            · exact Or.inl q
            · exact Or.inr ⟨q1, q2, by omega⟩
          · rintro (q | ⟨q1, q2, q3⟩)
            · exact Or.inl q
            · refine Or.inr ⟨q1, q2, ?_⟩
              have : pAt o t ≠ p := fun z => by
                have := q1.inj (e := e) (e' := t) (by omega) (by omega) (by rw [q2 e he, hpe, z])
                omega
              omega
        · intro r' w' kk
          refine fr_iload dX2_tryOrders_25 rfl ?_
          refine fr_aload_n dX2_tryOrders_27 rfl ?_
          refine fr_get fX2_tryOrders_28 g11 rfl ?_
          refine fr_get fX2_tryOrders_31 g13 rfl ?_
          refine fr_icmp_ge (tgt := 73) dX2_tryOrders_34 (by decide) (by omega) (by omega) (fun c => ?_) (fun c => ?_)
          · omega
          refine fr_iload_n dX2_tryOrders_37 rfl ?_
          refine fr_iload dX2_tryOrders_38 rfl ?_
          refine fr_callS kX2_tryOrders_40 (c_holds 0 (msk x t) p v (by omega) (by omega)) (by omega) rfl rfl rfl ?_
          dsimp only [List.set, Option.toList, List.cons_append, List.nil_append]
          rw [hb]
          refine fr_if_ne (tgt := 67) dX2_tryOrders_43 (by decide) (by decide) (fun c2 => ?_) (fun c2 => ?_)
          · refine fr_iinc dX2_tryOrders_67 rfl (by decide) rfl rfl ?_
            dsimp only [List.set, Option.toList, List.cons_append, List.nil_append]
            refine fr_goto (tgt := 25) dX2_tryOrders_70 (by decide) ?_
            exact kk
          · exact absurd c2 (by decide)
      | false =>
        have hnp : ∀ e, e < t → pAt x e ≠ p := fun e he z => by
          have := (msk_bit x p t).mpr ⟨e, he, z⟩
          rw [hb] at this; cases this
        have hpa := pAt_add (x := x) (p := p) (t := t) hx (by omega)
        obtain ⟨y, hy⟩ : ∃ y, y = x + p * 2 ^ (3 * t) := ⟨_, rfl⟩
        rw [← hy] at hpa
        have hy8 : y < 2 ^ (3 * (t + 1)) := by
          rw [show 3 * (t + 1) = 3 * t + 3 by omega, Nat.pow_add, hy]
          have : p * 2 ^ (3 * t) ≤ 7 * 2 ^ (3 * t) := Nat.mul_le_mul_right _ (by omega)
          omega
        have hmy : ∀ e, e ≤ t → msk y e = msk x e := by
          intro e
          induction e with
          | zero => intro _; rfl
          | succ e ihe => intro he; rw [msk_s, msk_s, ihe (by omega), hpa.1 e (by omega)]
        have hmy1 : msk y (t + 1) = msk x t ||| 2 ^ p := by rw [msk_s, hmy t (Nat.le_refl t), hpa.2]
        obtain ⟨w2, f2, A2, B2, ba2, bb2, bo2, k1, k2, k3, k4⟩ := ih (t + 1) y (fun o => V o ∨ (vOrd n o ∧ preO t x o ∧ pAt o t < p)) v g A' B' ba' bb' bo' (by omega) hy8 (by
          intro e he
          by_cases q : e = t
          · rw [q, hpa.2]; exact hp
          · rw [hpa.1 e (by omega)]; exact hdg e (by omega)) (by
          intro e e' hee he'
          by_cases q : e' = t
          · rw [q, hpa.2, hpa.1 e (by omega)]; exact hnp e (by omega)
          · rw [hpa.1 e (by omega), hpa.1 e' (by omega)]; exact hdi e e' hee (by omega)) (by
          rintro o (q | q)
          · exact hV o q
          · exact q.1) (by
          rintro o' (q | ⟨q1, q2, q3⟩) c hc hpc
          · exact hlex o' q c hc (fun e he => by rw [hpc e (by omega), hpa.1 e he])
          · refine ⟨t, by omega, fun j hj => ?_, ?_⟩
            · rw [q2 j hj, hpc j (by omega), hpa.1 j hj]
            · rw [hpc t (by omega), hpa.2]; exact q3) g1 g2
        refine ⟨(), w2, ⟨⟨f2, A2, B2, ba2, bb2, bo2, k2, k3.cg (fun o => ?_)⟩, g3.trans k4⟩, ?_⟩
        · constructor
          · rintro ((q | ⟨q1, q2, q3⟩) | ⟨q1, q2⟩)
            · exact Or.inl q
            · exact Or.inr ⟨q1, q2, by omega⟩
            · refine Or.inr ⟨q1, fun e he => by rw [q2 e (by omega), hpa.1 e he], ?_⟩
              rw [q2 t (by omega), hpa.2]; omega
          · rintro (q | ⟨q1, q2, q3⟩)
            · exact Or.inl (Or.inl q)
            · by_cases z : pAt o t < p
              · exact Or.inl (Or.inr ⟨q1, q2, z⟩)
              · refine Or.inr ⟨q1, fun e he => ?_⟩
                by_cases z2 : e = t
                · rw [z2, hpa.2]; omega
                · rw [hpa.1 e (by omega)]; exact q2 e (by omega)
        · intro r' w' kk
          have hs := iI_shl (m := 1) p (by rw [Nat.one_mul]; have : 2 ^ p ≤ 2 ^ 6 := Nat.pow_le_pow_right (by decide) (by omega); omega) (by omega)
          rw [Nat.one_mul] at hs
          have hs3 := iI_shl (m := p) (3 * t) (by have : p * 2 ^ (3 * t) ≤ 6 * 2 ^ 15 := Nat.mul_le_mul (by omega) hp5; omega) (by omega)
          rw [hmy1] at k1
          rw [show ((t + 1 : Nat) : Int) = (t : Int) + 1 by omega] at k1
          refine fr_iload dX2_tryOrders_25 rfl ?_
          refine fr_aload_n dX2_tryOrders_27 rfl ?_
          refine fr_get fX2_tryOrders_28 g11 rfl ?_
          refine fr_get fX2_tryOrders_31 g13 rfl ?_
          refine fr_icmp_ge (tgt := 73) dX2_tryOrders_34 (by decide) (by omega) (by omega) (fun c => ?_) (fun c => ?_)
          · omega
          refine fr_iload_n dX2_tryOrders_37 rfl ?_
          refine fr_iload dX2_tryOrders_38 rfl ?_
          refine fr_callS kX2_tryOrders_40 (c_holds 0 (msk x t) p v (by omega) (by omega)) (by omega) rfl rfl rfl ?_
          dsimp only [List.set, Option.toList, List.cons_append, List.nil_append]
          rw [hb]
          refine fr_if_ne (tgt := 67) dX2_tryOrders_43 (by decide) (by decide) (fun c2 => ?_) (fun c2 => ?_)
          · exact absurd rfl c2
          refine fr_aload_n dX2_tryOrders_46 rfl ?_
          refine fr_iload_n dX2_tryOrders_47 rfl ?_
          refine fr_iconst dX2_tryOrders_48 ?_
          refine fr_iadd dX2_tryOrders_49 ?_
          refine fr_iload_n dX2_tryOrders_50 rfl ?_
          refine fr_iconst dX2_tryOrders_51 ?_
          refine fr_iload dX2_tryOrders_52 rfl ?_
          refine fr_ishl (((2 ^ p : Nat) : Int)) dX2_tryOrders_54 (hs) ?_
          refine fr_ior (((msk x t ||| 2 ^ p : Nat) : Int)) dX2_tryOrders_55 (iI_or _ _) ?_
          refine fr_iload_n dX2_tryOrders_56 rfl ?_
          refine fr_iload dX2_tryOrders_57 rfl ?_
          refine fr_iconst dX2_tryOrders_59 ?_
          refine fr_iload_n dX2_tryOrders_60 rfl ?_
          refine fr_imul dX2_tryOrders_61 ?_
          rw [show (3 : Int) * (t : Int) = ((3 * t : Nat) : Int) by omega]
          refine fr_ishl (((p * 2 ^ (3 * t) : Nat) : Int)) dX2_tryOrders_62 (hs3) ?_
          refine fr_ior ((y : Int)) dX2_tryOrders_63 (by rw [iI_or, or_add hx, ← hy]) ?_
          refine fr_callV kX2_tryOrders_64 (k1) (by omega) g11 rfl rfl rfl ?_
          dsimp only [List.set, Option.toList, List.cons_append, List.nil_append]
          refine fr_iinc dX2_tryOrders_67 rfl (by decide) rfl rfl ?_
          dsimp only [List.set, Option.toList, List.cons_append, List.nil_append]
          refine fr_goto (tgt := 25) dX2_tryOrders_70 (by decide) ?_
          exact kk)
    obtain ⟨_, wE, ⟨⟨g, A', B', ba', bb', bo', e1, e2⟩, e3⟩, hr⟩ := loop 0 () w (Nat.zero_le _) ⟨⟨f, A, B, ba, bb, bo, hLA, hB.cg (fun o => ⟨fun q => Or.inl q, fun q => by rcases q with q | q; exact q; exact absurd q.2.2 (Nat.not_lt_zero _)⟩)⟩, kp.rf⟩
    refine ⟨wE, g, A', B', ba', bb', bo', ?_, e1, e2.cg (fun o => ?_), e3⟩
    · have h1 := hLA.1
      have h3 := hLA.2.1.1
      have e11 := e1.1
      have e13 := e1.2.1.1
      refine fw_K.of (by decide) (Nat.le_of_ble_eq_true rfl) (by simp [Value.category]) (e3.1) ?_
      show fw_R _ _ 0 [some (.ref 13), some (.int (iI t)), some (.int (iI (msk x t))), some (.int (iI x)), none] [] _ _ _
      refine fr_iload_n dX2_tryOrders_0 rfl ?_
      refine fr_aload_n dX2_tryOrders_1 rfl ?_
      refine fr_get fX2_tryOrders_2 h1 rfl ?_
      refine fr_get fX2_tryOrders_5 h3 rfl ?_
      refine fr_icmp_lt (tgt := 22) dX2_tryOrders_8 (by decide) (by omega) (by omega) (fun c => ?_) (fun c => ?_)
      · refine fr_iconst dX2_tryOrders_22 ?_
        refine fr_istore dX2_tryOrders_23 (by decide) rfl rfl ?_
        dsimp only [List.set, Option.toList, List.cons_append, List.nil_append]
        refine hr _ _ ?_
        refine fr_iload dX2_tryOrders_25 rfl ?_
        refine fr_aload_n dX2_tryOrders_27 rfl ?_
        refine fr_get fX2_tryOrders_28 e11 rfl ?_
        refine fr_get fX2_tryOrders_31 e13 rfl ?_
        refine fr_icmp_ge (tgt := 73) dX2_tryOrders_34 (by decide) (by omega) (by omega) (fun c2 => ?_) (fun c2 => ?_)
        · exact fr_vret dX2_tryOrders_73 rfl rfl (rfl)
        · omega
      · omega
    · constructor
      · rintro (q | ⟨q1, q2, q3⟩)
        · exact Or.inl q
        · exact Or.inr ⟨q1, q2⟩
      · rintro (q | ⟨q1, q2⟩)
        · exact Or.inl q
        · exact Or.inr ⟨q1, q2, q1.on.2 t (by omega)⟩
theorem vOrd_ex : ∀ n : Nat, n < 7 → 2 ≤ n → ∃ o : Nat, vOrd n o := by
  intro n h1 h2
  rcases (show n = 2 ∨ n = 3 ∨ n = 4 ∨ n = 5 ∨ n = 6 by omega) with rfl | rfl | rfl | rfl | rfl
  · exact ⟨8, by decide, by decide⟩
  · exact ⟨136, by decide, by decide⟩
  · exact ⟨1672, by decide, by decide⟩
  · exact ⟨18056, by decide, by decide⟩
  · exact ⟨181896, by decide, by decide⟩
/-- THE BEST of all orders -/
def isBest (n : Nat) (D : Nat → Nat → Int) (o : Nat) : Prop := ∃ ba bb, BSt n D (vOrd n) (o : Int) ba bb
theorem isBest.uniq {n o o' : Nat} {D : Nat → Nat → Int} (h : isBest n D o) (h' : isBest n D o') : o = o' := by
  obtain ⟨ba, bb, h⟩ := h
  obtain ⟨ba', bb', h'⟩ := h'
  rcases h with ⟨h1, -⟩ | ⟨p, h1, h2, h3, -, -, h6⟩
  · omega
  rcases h' with ⟨h1', -⟩ | ⟨p', h1', h2', h3', -, -, h6'⟩
  · omega
  have e1 : o = p := by omega
  have e2 : o' = p' := by omega
  subst e1; subst e2
  have a1 := h6 o' h2' ba' bb' h3'
  have a2 := h6' o h2 ba bb h3
  rcases a1 with a1 | ⟨a1, a3⟩
  · rcases a2 with a2 | ⟨a2, -⟩ <;> omega
  · rcases a2 with a2 | ⟨a2, a4⟩
    · omega
    · rcases a3 with a3 | a3
      · exact a3
      · rcases a4 with a4 | a4
        · exact a4.symm
        · exact absurd a4 (lex_asym a3)
theorem isBest.v {n o : Nat} {D : Nat → Nat → Int} (h : isBest n D o) : vOrd n o := by
  obtain ⟨ba, bb, h⟩ := h
  rcases h with ⟨h1, -⟩ | ⟨p, h1, h2, -⟩
  · omega
  · rw [show o = p by omega]; exact h2
theorem c_leastStretched {d n A B ba bb : Nat} {bo : Int} {D : Nat → Nat → Int} {f : Nat → Int} {w : fw_S} (hd : 11 ≤ d) (h : LA w n D f A B bo ba bb) (hD : okR n D 30) : ∃ (w' : fw_S) (f' : Nat → Int) (A' B' ba' bb' o : Nat), fw_K d mX2_leastStretched [.ref 13] w (some (.int (iI o))) w' ∧ LA w' n D f' A' B' o ba' bb' ∧ isBest n D o ∧ kp w w' (fun k => k = 13 ∨ k = 14) := by
  have hn := h.2.1.2.2
  have u1 := h.up A B (-4) ba bb
  obtain ⟨w1, f1, A1, B1, ba1, bb1, bo1, k1, k2, k3, k4⟩ := c_tryOrders hD n 0 0 (fun _ => False) _ f A B ba bb (-4) (by omega) (by decide) (fun e he => absurd he (Nat.not_lt_zero e)) (fun e e' _ he => absurd he (Nat.not_lt_zero e')) (fun o q => q.elim) (fun o q => q.elim) u1 (Or.inl ⟨rfl, fun o q => q⟩)
  have k3' := k3.cg (V' := vOrd n) (fun o => ⟨fun q => by rcases q with q | q; exact q.elim; exact q.1, fun q => Or.inr ⟨q, fun e he => absurd he (Nat.not_lt_zero e)⟩⟩)
  obtain ⟨o, ho⟩ : ∃ o : Nat, bo1 = (o : Int) := by
    rcases k3' with ⟨h1, h2⟩ | ⟨o, h1, -⟩
    · obtain ⟨o, ho⟩ := vOrd_ex n (by omega) hn.1
      exact absurd ho (h2 o)
    · exact ⟨o, h1⟩
  subst ho
  have kall : kp w w1 (fun k => k = 13 ∨ k = 14) := ((kp.up w 13 _).mono (fun k hk => Or.inl hk)).trans k4
  refine ⟨w1, f1, A1, B1, ba1, bb1, o, ?_, k2, ⟨ba1, bb1, k3'⟩, kall⟩
  have h1 := h.1
  have u11 := u1.1
  have k21 := k2.1
  refine fw_K.of (by decide) (Nat.le_of_ble_eq_true rfl) (by simp [Value.category]) (kall.1) ?_
  show fw_R _ _ 0 [some (.ref 13)] [] _ _ _
  refine fr_aload_n dX2_leastStretched_0 rfl ?_
  refine fr_bipush dX2_leastStretched_1 (by decide) ?_
  refine fr_put fX2_leastStretched_3 pfX2_4 h1 (by simp) rfl ?_
  dsimp only [List.set, Option.toList, List.cons_append, List.nil_append]
  refine fr_aload_n dX2_leastStretched_6 rfl ?_
  refine fr_iconst dX2_leastStretched_7 ?_
  refine fr_iconst dX2_leastStretched_8 ?_
  refine fr_iconst dX2_leastStretched_9 ?_
  refine fr_callV kX2_leastStretched_10 (k1) (by omega) u11 rfl rfl rfl ?_
  dsimp only [List.set, Option.toList, List.cons_append, List.nil_append]
  refine fr_aload_n dX2_leastStretched_13 rfl ?_
  refine fr_get fX2_leastStretched_14 k21 rfl ?_
  exact fr_iret dX2_leastStretched_17 rfl (rfl) (rfl)
