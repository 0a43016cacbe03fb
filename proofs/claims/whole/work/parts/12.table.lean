/-! the Table's copy, and cuts -/
theorem c_copyDoubled {d o a o2 a2 n : Nat} {D : Nat → Nat → Int} {x : Int32} {f0 : Nat → Int} {w : fw_S} (h1 : fw_g w o (.inl (6, [.ref a, .int x]))) (h2 : fw_g w a (.inr (36, .inl f0))) (h : tb w o2 a2 n D) (ho : o2 ≠ o) (ha : a2 ≠ a) : ∃ w', fw_K d mX6_copyDoubled [.ref o, .ref o2] w none w' ∧ tb w' o a n (fun i j => 2 * D i j) ∧ kp w w' (fun k => k = o ∨ k = a) := by
  have hoa := h1.oa h2
  obtain ⟨u1, ⟨f, u2, u3⟩, hn⟩ := h
  have hoa2 := u1.oa h2
  have hao2 := h1.oa u2
  have lp := lpE (M := mX6_copyDoubled) (d := d) (pcH := 10) 36 (fun i _ => [some (.ref o), some (.ref o2), some (.int (iI i))]) (fun i (_ : Unit) v => fw_g v o (.inl (6, [.ref a, .int (iI n)])) ∧ fw_g v o2 (.inl (6, [.ref a2, .int (iI n)])) ∧ fw_g v a2 (.inr (36, .inl f)) ∧ (∃ g, fw_g v a (.inr (36, .inl g)) ∧ ∀ p, p < i → g p = 2 * f p) ∧ kp w v (fun k => k = o ∨ k = a)) (by
    intro i _ v hi ⟨g1, g2, g3, ⟨g, g4, g5⟩, g6⟩
    refine ⟨(), fw_up v a (.inr (36, .inl (fw_u g i (2 * f i)))), ⟨g1.ne _ hoa, g2.ne _ hoa2, g3.ne _ ha, ⟨_, g4.up _, ?_⟩, g6.trans ((kp.up v a _).mono (fun k hk => Or.inr hk))⟩, ?_⟩
    · intro p hp
      by_cases he : p = i
      · rw [he, fw_u_self]
      · rw [fw_u_ne _ _ he]; exact g5 p (by omega)
    · intro r w' k
      refine fr_iload_n dX6_copyDoubled_10 rfl ?_
      refine fr_aload_n dX6_copyDoubled_11 rfl ?_
      refine fr_get fX6_copyDoubled_12 g1 rfl ?_
      refine fr_alen dX6_copyDoubled_15 g4 ?_
      refine fr_icmp_ge (tgt := 39) dX6_copyDoubled_16 (by decide) (by omega) (by omega) (fun c => ?_) (fun c => ?_)
      · omega
      refine fr_aload_n dX6_copyDoubled_19 rfl ?_
      refine fr_get fX6_copyDoubled_20 g1 rfl ?_
      refine fr_iload_n dX6_copyDoubled_23 rfl ?_
      refine fr_iconst dX6_copyDoubled_24 ?_
      refine fr_aload_n dX6_copyDoubled_25 rfl ?_
      refine fr_get fX6_copyDoubled_26 g2 rfl ?_
      refine fr_iload_n dX6_copyDoubled_29 rfl ?_
      refine fr_iald (i) dX6_copyDoubled_30 g3 (by omega) (by omega) (by decide) ?_
      refine fr_imul dX6_copyDoubled_31 ?_
      refine fr_iast (i) dX6_copyDoubled_32 g4 (by omega) (by omega) (by decide) ?_
      refine fr_iinc dX6_copyDoubled_33 rfl (by decide) rfl rfl ?_
      dsimp only [List.set, Option.toList, List.cons_append, List.nil_append]
      refine fr_goto (tgt := 10) dX6_copyDoubled_36 (by decide) ?_
      exact k)
  obtain ⟨_, wE, ⟨e1, e2, e3, ⟨g, e4, e5⟩, e6⟩, hr⟩ := lp 0 () (fw_up w o (.inl (6, [.ref a, .int (iI n)]))) (Nat.zero_le _) ⟨h1.up _, u1.ne _ ho, u2.ne _ (Ne.symm hao2), ⟨f0, h2.ne _ (Ne.symm hoa), fun p hp => absurd hp (Nat.not_lt_zero p)⟩, (kp.up w o _).mono (fun k hk => Or.inl hk)⟩
  refine ⟨wE, ?_, ⟨e1, ⟨g, e4, fun i j hi hj => ?_⟩, hn⟩, e6⟩
  · refine fw_K.of (by decide) (Nat.le_of_ble_eq_true rfl) (by simp [Value.category]) (e6.1) ?_
    show fw_R _ _ 0 [some (.ref o), some (.ref o2), none] [] _ _ _
    refine fr_aload_n dX6_copyDoubled_0 rfl ?_
    refine fr_aload_n dX6_copyDoubled_1 rfl ?_
    refine fr_get fX6_copyDoubled_2 u1 rfl ?_
    refine fr_put fX6_copyDoubled_5 pfX6_1 h1 (by simp) rfl ?_
    dsimp only [List.set, Option.toList, List.cons_append, List.nil_append]
    refine fr_iconst dX6_copyDoubled_8 ?_
    refine fr_istore_n dX6_copyDoubled_9 rfl (by decide) rfl rfl ?_
    dsimp only [List.set, Option.toList, List.cons_append, List.nil_append]
    refine hr _ _ ?_
    refine fr_iload_n dX6_copyDoubled_10 rfl ?_
    refine fr_aload_n dX6_copyDoubled_11 rfl ?_
    refine fr_get fX6_copyDoubled_12 e1 rfl ?_
    refine fr_alen dX6_copyDoubled_15 e4 ?_
    refine fr_icmp_ge (tgt := 39) dX6_copyDoubled_16 (by decide) (by omega) (by omega) (fun c => ?_) (fun c => ?_)
    · exact fr_vret dX6_copyDoubled_39 rfl rfl (rfl)
    · omega
  · rw [e5 _ (by omega), u3 i j hi hj]
def isCut (n : Nat) (cut : Int) : Bool := decide (0 < cut ∧ cut < ((2 ^ n : Nat) : Int) ∧ cut % 2 = 0)
theorem p2_le {n : Nat} (h : n ≤ 6) : 2 ^ n ≤ 64 := Nat.pow_le_pow_right (n := 2) (by decide) h
theorem c_hasCut {d o a n : Nat} {D : Nat → Nat → Int} {w : fw_S} (hd : 1 ≤ d) (h : tb w o a n D) {cut : Int} (hc : -2147483648 ≤ cut ∧ cut ≤ 2147483647) : fw_K d mX6_hasCut [.ref o, .int (iI cut)] w (some (.int (iI (b2 (isCut n cut))))) w := by
  obtain ⟨h1, ⟨f, h2, h3⟩, h4, h5⟩ := h
  have hp := p2_le h5
  have hsh := iI_shl (m := 1) n (by omega) (by omega)
  rw [Nat.one_mul] at hsh
  unfold isCut
  generalize 2 ^ n = P at hp hsh ⊢
  refine fw_K.of (by decide) (Nat.le_of_ble_eq_true rfl) (by simp [Value.category]) (rfl) ?_
  show fw_R _ _ 0 [some (.ref o), some (.int (iI cut))] [] _ _ _
  refine fr_iload_n dX6_hasCut_0 rfl ?_
  refine fr_if_le (tgt := 26) dX6_hasCut_1 (by decide) (by omega) (fun c => ?_) (fun c => ?_)
  · refine fr_iconst dX6_hasCut_26 ?_
    exact fr_zret dX6_hasCut_27 rfl (by decide) (by rw [show decide (0 < cut ∧ cut < (P : Int) ∧ cut % 2 = 0) = false by simp only [decide_eq_false_iff_not]; omega]; rfl) (rfl)
  · obtain ⟨m, rfl⟩ := Int.eq_ofNat_of_zero_le (show 0 ≤ cut by omega)
    refine fr_iload_n dX6_hasCut_4 rfl ?_
    refine fr_iconst dX6_hasCut_5 ?_
    refine fr_aload_n dX6_hasCut_6 rfl ?_
    refine fr_get fX6_hasCut_7 h1 rfl ?_
    refine fr_ishl ((P : Int)) dX6_hasCut_10 (hsh) ?_
    refine fr_icmp_ge (tgt := 26) dX6_hasCut_11 (by decide) (by omega) (by omega) (fun c2 => ?_) (fun c2 => ?_)
    · refine fr_iconst dX6_hasCut_26 ?_
      exact fr_zret dX6_hasCut_27 rfl (by decide) (by rw [show decide (0 < (m : Int) ∧ (m : Int) < (P : Int) ∧ (m : Int) % 2 = 0) = false by simp only [decide_eq_false_iff_not]; omega]; rfl) (rfl)
    · have r1 := b2_r (m.testBit 0)
      refine fr_iload_n dX6_hasCut_14 rfl ?_
      refine fr_iconst dX6_hasCut_15 ?_
      refine fr_callS kX6_hasCut_16 (c_holds 0 m 0 w (by omega) (by omega)) (by omega) rfl rfl rfl ?_
      dsimp only [List.set, Option.toList, List.cons_append, List.nil_append]
      refine fr_if_ne (tgt := 26) dX6_hasCut_19 (by decide) (by omega) (fun c3 => ?_) (fun c3 => ?_)
      · have c4 := b2_n0.mp c3
        rw [Nat.testBit_zero, decide_eq_true_eq] at c4
        refine fr_iconst dX6_hasCut_26 ?_
        exact fr_zret dX6_hasCut_27 rfl (by decide) (by rw [show decide (0 < (m : Int) ∧ (m : Int) < (P : Int) ∧ (m : Int) % 2 = 0) = false by simp only [decide_eq_false_iff_not]; omega]; rfl) (rfl)
      · have c4 := b2_0.mp c3
        rw [Nat.testBit_zero, decide_eq_false_iff_not] at c4
        refine fr_iconst dX6_hasCut_22 ?_
        refine fr_goto (tgt := 27) dX6_hasCut_23 (by decide) ?_
        exact fr_zret dX6_hasCut_27 rfl (by decide) (by rw [show decide (0 < (m : Int) ∧ (m : Int) < (P : Int) ∧ (m : Int) % 2 = 0) = true by simp only [decide_eq_true_eq]; omega]; rfl) (rfl)
/-- whether each distance bears a cut t times -/
def bearsP (n : Nat) (D : Nat → Nat → Int) (cut : Nat) (t : Int) : Prop := ∀ i, i < n → ∀ j, j < n → i < j → pt cut i j = true → 0 ≤ D i j + t ∧ D i j + t ≤ 30
def okR (n : Nat) (D : Nat → Nat → Int) (hi : Int) : Prop := ∀ i j, i < n → j < n → 0 ≤ D i j ∧ D i j ≤ hi
theorem c_bearsCut {d o a n cut : Nat} {D : Nat → Nat → Int} {w : fw_S} (hd : 2 ≤ d) (h : tb w o a n D) (hD : okR n D 60) (hc : cut < 64) {t : Int} (ht : -100 ≤ t ∧ t ≤ 100) (b : Bool) (hb : b = true ↔ bearsP n D cut t) : fw_K d mX6_bearsCut [.ref o, .int (iI cut), .int (iI t)] w (some (.int (iI (b2 b)))) w := by
  have h1 := h.1
  have hn := h.2.2
  have inner : ∀ i, i < n → (∀ j, j < n → i < j → pt cut i j = true → 0 ≤ D i j + t ∧ D i j + t ≤ 30 → True) → fw_R mX6_bearsCut d 65 [some (.ref o), some (.int (iI cut)), some (.int (iI t)), some (.int (iI i)), none, none] [] w (some (.int (iI (b2 b)))) w → True := fun _ _ _ _ => trivial
  clear inner
  have outer := up_loop (fun i => (∀ i' j', i' < i → j' < n → i' < j' → pt cut i' j' = true → 0 ≤ D i' j' + t ∧ D i' j' + t ≤ 30) → fw_R mX6_bearsCut d 2 [some (.ref o), some (.int (iI cut)), some (.int (iI t)), some (.int (iI i)), none, none] [] w (some (.int (iI (b2 b)))) w) n (by
    intro hall
    refine fr_iload_n dX6_bearsCut_2 rfl ?_
    refine fr_aload_n dX6_bearsCut_3 rfl ?_
    refine fr_get fX6_bearsCut_4 h1 rfl ?_
    refine fr_icmp_ge (tgt := 71) dX6_bearsCut_7 (by decide) (by omega) (by omega) (fun c => ?_) (fun c => ?_)
    · refine fr_iconst dX6_bearsCut_71 ?_
      have : b = true := hb.mpr (fun i hi j hj hij hp => hall i j hi hj hij hp)
      subst this
      exact fr_zret dX6_bearsCut_72 rfl (by decide) (rfl) (rfl)
    · omega) (by
    intro i hi ih hall
    have inner := up_loop (fun j => i < j → (∀ j', j' < j → i < j' → pt cut i j' = true → 0 ≤ D i j' + t ∧ D i j' + t ≤ 30) → fw_R mX6_bearsCut d 15 [some (.ref o), some (.int (iI cut)), some (.int (iI t)), some (.int (iI i)), some (.int (iI j)), none] [] w (some (.int (iI (b2 b)))) w) n (by
      intro hij hall2
      refine fr_iload dX6_bearsCut_15 rfl ?_
      refine fr_aload_n dX6_bearsCut_17 rfl ?_
      refine fr_get fX6_bearsCut_18 h1 rfl ?_
      refine fr_icmp_ge (tgt := 65) dX6_bearsCut_21 (by decide) (by omega) (by omega) (fun c => ?_) (fun c => ?_)
      · refine fr_iinc dX6_bearsCut_65 rfl (by decide) rfl rfl ?_
        dsimp only [List.set, Option.toList, List.cons_append, List.nil_append]
        refine fr_goto (tgt := 2) dX6_bearsCut_68 (by decide) ?_
        refine (ih (fun i' j' hi' hj' hij' hp => ?_)).wk (by simp [fw_le])
        by_cases he : i' = i
        · subst he; exact hall2 j' hj' hij' hp
        · exact hall i' j' (by omega) hj' hij' hp
      · omega) (by
      intro j hj ihj hij hall2
      have hDij := hD i j hi hj
      have r1 := b2_r (pt cut i j)
      have stay : (pt cut i j = true → 0 ≤ D i j + t ∧ D i j + t ≤ 30) → fw_R mX6_bearsCut d 59 [some (.ref o), some (.int (iI cut)), some (.int (iI t)), some (.int (iI i)), some (.int (iI j)), some (.int (iI (D i j + t)))] [] w (some (.int (iI (b2 b)))) w := by
        intro hok
        refine fr_iinc dX6_bearsCut_59 rfl (by decide) rfl rfl ?_
        dsimp only [List.set, Option.toList, List.cons_append, List.nil_append]
        refine fr_goto (tgt := 15) dX6_bearsCut_62 (by decide) ?_
        refine (ihj (by omega) (fun j' hj' hij' hp => ?_)).wk (by simp [fw_le])
        by_cases he : j' = j
        · subst he; exact hok hp
        · exact hall2 j' (by omega) hij' hp
      have bad : pt cut i j = true → ¬ (0 ≤ D i j + t ∧ D i j + t ≤ 30) → b = false := by
        intro hp hno
        cases hbb : b with
        | false => rfl
        | true => exact absurd (hb.mp hbb i hi j hj hij hp) hno
      refine fr_iload dX6_bearsCut_15 rfl ?_
      refine fr_aload_n dX6_bearsCut_17 rfl ?_
      refine fr_get fX6_bearsCut_18 h1 rfl ?_
      refine fr_icmp_ge (tgt := 65) dX6_bearsCut_21 (by decide) (by omega) (by omega) (fun c => ?_) (fun c => ?_)
      · omega
      refine fr_aload_n dX6_bearsCut_24 rfl ?_
      refine fr_iload_n dX6_bearsCut_25 rfl ?_
      refine fr_iload dX6_bearsCut_26 rfl ?_
      refine fr_callV kX6_bearsCut_28 (c_between (d := 0) h hi hj) (by omega) h1 rfl rfl rfl ?_
      dsimp only [List.set, Option.toList, List.cons_append, List.nil_append]
      refine fr_iload_n dX6_bearsCut_31 rfl ?_
      refine fr_iadd dX6_bearsCut_32 ?_
      refine fr_istore dX6_bearsCut_33 (by decide) rfl rfl ?_
      dsimp only [List.set, Option.toList, List.cons_append, List.nil_append]
      refine fr_iload_n dX6_bearsCut_35 rfl ?_
      refine fr_iload_n dX6_bearsCut_36 rfl ?_
      refine fr_iload dX6_bearsCut_37 rfl ?_
      refine fr_callS kX6_bearsCut_39 (c_parts 1 cut i j w (by omega) (by omega) (by omega) (by omega)) (by omega) rfl rfl rfl ?_
      dsimp only [List.set, Option.toList, List.cons_append, List.nil_append]
      refine fr_if_eq (tgt := 59) dX6_bearsCut_42 (by decide) (by omega) (fun c2 => ?_) (fun c2 => ?_)
      · have c2' := b2_0.mp c2
        exact stay (fun hp => by rw [c2'] at hp; cases hp)
      · have c2' := b2_n0.mp c2
        refine fr_iload dX6_bearsCut_45 rfl ?_
        refine fr_if_lt (tgt := 57) dX6_bearsCut_47 (by decide) (by omega) (fun c3 => ?_) (fun c3 => ?_)
        · refine fr_iconst dX6_bearsCut_57 ?_
          rw [bad c2' (by omega)]
          exact fr_zret dX6_bearsCut_58 rfl (by decide) (rfl) (rfl)
        · refine fr_iload dX6_bearsCut_50 rfl ?_
          refine fr_bipush dX6_bearsCut_52 (by decide) ?_
          refine fr_icmp_le (tgt := 59) dX6_bearsCut_54 (by decide) (by omega) (by omega) (fun c4 => ?_) (fun c4 => ?_)
          · exact stay (fun _ => ⟨by omega, by omega⟩)
          · refine fr_iconst dX6_bearsCut_57 ?_
            rw [bad c2' (by omega)]
            exact fr_zret dX6_bearsCut_58 rfl (by decide) (rfl) (rfl))
    refine fr_iload_n dX6_bearsCut_2 rfl ?_
    refine fr_aload_n dX6_bearsCut_3 rfl ?_
    refine fr_get fX6_bearsCut_4 h1 rfl ?_
    refine fr_icmp_ge (tgt := 71) dX6_bearsCut_7 (by decide) (by omega) (by omega) (fun c => ?_) (fun c => ?_)
    · omega
    refine fr_iload_n dX6_bearsCut_10 rfl ?_
    refine fr_iconst dX6_bearsCut_11 ?_
    refine fr_iadd dX6_bearsCut_12 ?_
    refine fr_istore dX6_bearsCut_13 (by decide) rfl rfl ?_
    dsimp only [List.set, Option.toList, List.cons_append, List.nil_append]
    exact inner (i + 1) (by omega) (by omega) (fun j' hj' hij' => absurd hij' (by omega)))
  refine fw_K.of (by decide) (Nat.le_of_ble_eq_true rfl) (by simp [Value.category]) (rfl) ?_
  show fw_R _ _ 0 [some (.ref o), some (.int (iI cut)), some (.int (iI t)), none, none, none] [] _ _ _
  refine fr_iconst dX6_bearsCut_0 ?_
  refine fr_istore_n dX6_bearsCut_1 rfl (by decide) rfl rfl ?_
  dsimp only [List.set, Option.toList, List.cons_append, List.nil_append]
  exact outer 0 (Nat.zero_le _) (fun i' j' hi' => absurd hi' (Nat.not_lt_zero _))
/-- a cut put in t times -/
def cutD (D : Nat → Nat → Int) (cut : Nat) (t : Int) : Nat → Nat → Int := fun x y => if pt cut x y = true then D x y + t else D x y
theorem pt_symm (cut i j : Nat) : pt cut i j = pt cut j i := by unfold pt; cases cut.testBit i <;> cases cut.testBit j <;> rfl
theorem pt_self (cut i : Nat) : pt cut i i = false := by unfold pt; cases cut.testBit i <;> rfl
def sym (n : Nat) (D : Nat → Nat → Int) : Prop := ∀ i j, i < n → j < n → D i j = D j i
theorem c_putCut {d o a n cut : Nat} {D : Nat → Nat → Int} {w : fw_S} (hd : 2 ≤ d) (h : tb w o a n D) (hs : sym n D) (hc : cut < 64) (t : Int) : ∃ w', fw_K d mX6_putCut [.ref o, .int (iI cut), .int (iI t)] w none w' ∧ tb w' o a n (cutD D cut t) ∧ kp w w' (fun k => k = a) := by
  have h1 := h.1
  have hn := h.2.2
  have hoa := h.ne
  have outer := lpE (M := mX6_putCut) (d := d) (pcH := 2) n (fun i _ => [some (.ref o), some (.int (iI cut)), some (.int (iI t)), some (.int (iI i)), none]) (fun i (_ : Unit) v => tb v o a n (fun x y => if pt cut x y = true ∧ (x < i ∨ y < i) then D x y + t else D x y) ∧ kp w v (fun k => k = a)) (by
    intro i _ v hi ⟨g1, g2⟩
    have inner := lpE (M := mX6_putCut) (d := d) (pcH := 15) n (fun j _ => [some (.ref o), some (.int (iI cut)), some (.int (iI t)), some (.int (iI i)), some (.int (iI j))]) (fun j (_ : Unit) v => i < j ∧ tb v o a n (fun x y => if pt cut x y = true ∧ (x < i ∨ y < i ∨ (x = i ∧ y < j) ∨ (y = i ∧ x < j)) then D x y + t else D x y) ∧ kp w v (fun k => k = a)) (by
      intro j _ v hj ⟨hij, g1, g2⟩
      cases hp : pt cut i j with
      | true =>
        obtain ⟨w1, k1, k2, k3⟩ := c_put (d := d - 1) g1 hi hj (D i j + t)
        refine ⟨(), w1, ⟨by omega, k2.congr (fun x y hx hy => ?_), g2.trans k3⟩, ?_⟩
        · unfold setD
          try dsimp only
          by_cases e : (x = i ∧ y = j) ∨ (x = j ∧ y = i)
          · rw [if_pos e]
            rcases e with ⟨rfl, rfl⟩ | ⟨rfl, rfl⟩
            · rw [if_pos ⟨hp, by omega⟩]
            · rw [if_pos ⟨by rw [pt_symm]; exact hp, by omega⟩, hs _ _ hx hy]
          · rw [if_neg e]
            by_cases hq : pt cut x y = true
            · by_cases h7 : (x < i ∨ y < i ∨ (x = i ∧ y < j) ∨ (y = i ∧ x < j))
              · rw [if_pos ⟨hq, h7⟩, if_pos ⟨hq, by omega⟩]
              · rw [if_neg (fun z => h7 z.2), if_neg (fun z => h7 (by have := z.2; omega))]
            · rw [if_neg (fun z => hq z.1), if_neg (fun z => hq z.1)]
        · intro r w' k
          have g11 := g1.1
          refine fr_iload dX6_putCut_15 rfl ?_
          refine fr_aload_n dX6_putCut_17 rfl ?_
          refine fr_get fX6_putCut_18 g11 rfl ?_
          refine fr_icmp_ge (tgt := 56) dX6_putCut_21 (by decide) (by omega) (by omega) (fun c => ?_) (fun c => ?_)
          · omega
          refine fr_iload_n dX6_putCut_24 rfl ?_
          refine fr_iload_n dX6_putCut_25 rfl ?_
          refine fr_iload dX6_putCut_26 rfl ?_
          refine fr_callS kX6_putCut_28 (c_parts (d - 1) cut i j v (by omega) (by omega) (by omega) (by omega)) (by omega) rfl rfl rfl ?_
          dsimp only [List.set, Option.toList, List.cons_append, List.nil_append]
          rw [hp]
          refine fr_if_eq (tgt := 50) dX6_putCut_31 (by decide) (by decide) (fun c2 => ?_) (fun c2 => ?_)
          · exact absurd c2 (by decide)
          have hb := c_between (d := d - 1) g1 hi hj
          rw [if_neg (by omega)] at hb
          refine fr_aload_n dX6_putCut_34 rfl ?_
          refine fr_iload_n dX6_putCut_35 rfl ?_
          refine fr_iload dX6_putCut_36 rfl ?_
          refine fr_aload_n dX6_putCut_38 rfl ?_
          refine fr_iload_n dX6_putCut_39 rfl ?_
          refine fr_iload dX6_putCut_40 rfl ?_
          refine fr_callV kX6_putCut_42 (hb) (by omega) g11 rfl rfl rfl ?_
          dsimp only [List.set, Option.toList, List.cons_append, List.nil_append]
          refine fr_iload_n dX6_putCut_45 rfl ?_
          refine fr_iadd dX6_putCut_46 ?_
          refine fr_callV kX6_putCut_47 (k1) (by omega) g11 rfl rfl rfl ?_
          dsimp only [List.set, Option.toList, List.cons_append, List.nil_append]
          refine fr_iinc dX6_putCut_50 rfl (by decide) rfl rfl ?_
          dsimp only [List.set, Option.toList, List.cons_append, List.nil_append]
          refine fr_goto (tgt := 15) dX6_putCut_53 (by decide) ?_
          exact k
      | false =>
        refine ⟨(), v, ⟨by omega, g1.congr (fun x y hx hy => ?_), g2⟩, ?_⟩
        · try dsimp only
          by_cases hq : pt cut x y = true
          · by_cases h7 : (x < i ∨ y < i ∨ (x = i ∧ y < j) ∨ (y = i ∧ x < j))
            · rw [if_pos ⟨hq, h7⟩, if_pos ⟨hq, by omega⟩]
            · have h8 : ¬ (x < i ∨ y < i ∨ (x = i ∧ y < j + 1) ∨ (y = i ∧ x < j + 1)) := by
                intro z
                have : (x = i ∧ y = j) ∨ (x = j ∧ y = i) := by omega
                rcases this with ⟨rfl, rfl⟩ | ⟨rfl, rfl⟩
                · rw [hp] at hq; cases hq
                · rw [pt_symm, hp] at hq; cases hq
              rw [if_neg (fun z => h7 z.2), if_neg (fun z => h8 z.2)]
          · rw [if_neg (fun z => hq z.1), if_neg (fun z => hq z.1)]
        · intro r w' k
          have g11 := g1.1
          refine fr_iload dX6_putCut_15 rfl ?_
          refine fr_aload_n dX6_putCut_17 rfl ?_
          refine fr_get fX6_putCut_18 g11 rfl ?_
          refine fr_icmp_ge (tgt := 56) dX6_putCut_21 (by decide) (by omega) (by omega) (fun c => ?_) (fun c => ?_)
          · omega
          refine fr_iload_n dX6_putCut_24 rfl ?_
          refine fr_iload_n dX6_putCut_25 rfl ?_
          refine fr_iload dX6_putCut_26 rfl ?_
          refine fr_callS kX6_putCut_28 (c_parts (d - 1) cut i j v (by omega) (by omega) (by omega) (by omega)) (by omega) rfl rfl rfl ?_
          dsimp only [List.set, Option.toList, List.cons_append, List.nil_append]
          rw [hp]
          refine fr_if_eq (tgt := 50) dX6_putCut_31 (by decide) (by decide) (fun c2 => ?_) (fun c2 => ?_)
          · refine fr_iinc dX6_putCut_50 rfl (by decide) rfl rfl ?_
            dsimp only [List.set, Option.toList, List.cons_append, List.nil_append]
            refine fr_goto (tgt := 15) dX6_putCut_53 (by decide) ?_
            exact k
          · exact absurd rfl c2)
    obtain ⟨_, wE, ⟨-, e1, e2⟩, hr⟩ := inner (i + 1) () v (by omega) ⟨by omega, g1.congr (fun x y hx hy => by
      try dsimp only
      by_cases hq : pt cut x y = true
      · by_cases h7 : (x < i ∨ y < i)
        · rw [if_pos ⟨hq, h7⟩, if_pos ⟨hq, by omega⟩]
        · have h8 : ¬ (x < i ∨ y < i ∨ (x = i ∧ y < i + 1) ∨ (y = i ∧ x < i + 1)) := by
            intro z
            have : x = i ∧ y = i := by omega
            rw [this.1, this.2, pt_self] at hq; cases hq
          rw [if_neg (fun z => h7 z.2), if_neg (fun z => h8 z.2)]
      · rw [if_neg (fun z => hq z.1), if_neg (fun z => hq z.1)]), g2⟩
    refine ⟨(), wE, ⟨e1.congr (fun x y hx hy => by
      try dsimp only
      by_cases hq : pt cut x y = true
      · by_cases h7 : (x < i + 1 ∨ y < i + 1)
        · rw [if_pos ⟨hq, by omega⟩, if_pos ⟨hq, h7⟩]
        · rw [if_neg (fun z => h7 (by have := z.2; omega)), if_neg (fun z => h7 z.2)]
      · rw [if_neg (fun z => hq z.1), if_neg (fun z => hq z.1)]), e2⟩, ?_⟩
    intro r w' k
    have g11 := g1.1
    refine fr_iload_n dX6_putCut_2 rfl ?_
    refine fr_aload_n dX6_putCut_3 rfl ?_
    refine fr_get fX6_putCut_4 g11 rfl ?_
    refine fr_icmp_ge (tgt := 62) dX6_putCut_7 (by decide) (by omega) (by omega) (fun c => ?_) (fun c => ?_)
    · omega
    refine fr_iload_n dX6_putCut_10 rfl ?_
    refine fr_iconst dX6_putCut_11 ?_
    refine fr_iadd dX6_putCut_12 ?_
    refine fr_istore dX6_putCut_13 (by decide) rfl rfl ?_
    dsimp only [List.set, Option.toList, List.cons_append, List.nil_append]
    refine hr r w' ?_
    have e11 := e1.1
    refine fr_iload dX6_putCut_15 rfl ?_
    refine fr_aload_n dX6_putCut_17 rfl ?_
    refine fr_get fX6_putCut_18 e11 rfl ?_
    refine fr_icmp_ge (tgt := 56) dX6_putCut_21 (by decide) (by omega) (by omega) (fun c => ?_) (fun c => ?_)
    · refine fr_iinc dX6_putCut_56 rfl (by decide) rfl rfl ?_
      dsimp only [List.set, Option.toList, List.cons_append, List.nil_append]
      refine fr_goto (tgt := 2) dX6_putCut_59 (by decide) ?_
      exact k.wk (by simp [fw_le])
    · omega)
  obtain ⟨_, wE, ⟨e1, e2⟩, hr⟩ := outer 0 () w (Nat.zero_le _) ⟨h.congr (fun x y hx hy => by rw [if_neg (by omega)]), kp.rf⟩
  refine ⟨wE, ?_, e1.congr (fun x y hx hy => ?_), e2⟩
  · refine fw_K.of (by decide) (Nat.le_of_ble_eq_true rfl) (by simp [Value.category]) (e2.1) ?_
    show fw_R _ _ 0 [some (.ref o), some (.int (iI cut)), some (.int (iI t)), none, none] [] _ _ _
    refine fr_iconst dX6_putCut_0 ?_
    refine fr_istore_n dX6_putCut_1 rfl (by decide) rfl rfl ?_
    dsimp only [List.set, Option.toList, List.cons_append, List.nil_append]
    refine hr _ _ ?_
    have e11 := e1.1
    refine fr_iload_n dX6_putCut_2 rfl ?_
    refine fr_aload_n dX6_putCut_3 rfl ?_
    refine fr_get fX6_putCut_4 e11 rfl ?_
    refine fr_icmp_ge (tgt := 62) dX6_putCut_7 (by decide) (by omega) (by omega) (fun c => ?_) (fun c => ?_)
    · exact fr_vret dX6_putCut_62 rfl rfl (rfl)
    · omega
  · unfold cutD
    try dsimp only
    by_cases hq : pt cut x y = true
    · rw [if_pos hq, if_pos ⟨hq, Or.inl hx⟩]
    · rw [if_neg hq, if_neg (fun z => hq z.1)]
