/-! the judge of law 3, and judge -/
/-- the figures of x to the base 5, m of them, each less 2; the one of point j -/
def dgt : Nat → Nat → Nat → Int
  | 0, _, _ => 0
  | m + 1, x, j => if j = m then ((x % 5 : Nat) : Int) - 2 else dgt m (x / 5) j
theorem dgt_s (m x j : Nat) : dgt (m + 1) x j = if j = m then ((x % 5 : Nat) : Int) - 2 else dgt m (x / 5) j := rfl
theorem dgt_r : ∀ m x j : Nat, -2 ≤ dgt m x j ∧ dgt m x j ≤ 2
  | 0, x, j => by unfold dgt; omega
  | m + 1, x, j => by
    have := dgt_r m (x / 5) j
    rw [dgt_s]; split <;> omega
/-- the sum over i below j of f(i) by the distance of i and q -/
def pull (D : Nat → Nat → Int) (f : Nat → Int) (q : Nat) : Nat → Int
  | 0 => 0
  | j + 1 => pull D f q j + f j * D j q
theorem pull_s (D : Nat → Nat → Int) (f : Nat → Int) (q j : Nat) : pull D f q (j + 1) = pull D f q j + f j * D j q := rfl
theorem pull_cg {D : Nat → Nat → Int} {f g : Nat → Int} {q : Nat} : ∀ {j : Nat}, (∀ i, i < j → f i = g i) → pull D f q j = pull D g q j
  | 0, _ => rfl
  | j + 1, h => by rw [pull_s, pull_s, pull_cg (fun i hi => h i (by omega)), h j (by omega)]
theorem mul_r {x y c e : Int} (hc : 0 ≤ c) (hx : -c ≤ x ∧ x ≤ c) (hy : 0 ≤ y ∧ y ≤ e) : -(c * e) ≤ x * y ∧ x * y ≤ c * e := by
  have h1 : x * y ≤ c * y := Int.mul_le_mul_of_nonneg_right hx.2 hy.1
  have h2 : (-c) * y ≤ x * y := Int.mul_le_mul_of_nonneg_right hx.1 hy.1
  have h3 : c * y ≤ c * e := Int.mul_le_mul_of_nonneg_left hy.2 hc
  have h4 : (-c) * y = -(c * y) := Int.neg_mul c y
  omega
theorem pull_r {D : Nat → Nat → Int} {n : Nat} (hD : okR n D 30) {f : Nat → Int} {q : Nat} (hq : q < n) : ∀ j : Nat, j ≤ n → (∀ i, i < j → -2 ≤ f i ∧ f i ≤ 2) → -(60 * (j : Int)) ≤ pull D f q j ∧ pull D f q j ≤ 60 * (j : Int)
  | 0, _, _ => by simp [pull]
  | j + 1, hj, hf => by
    have ih := pull_r hD hq j (by omega) (fun i hi => hf i (by omega))
    have h1 := mul_r (c := 2) (e := 30) (by omega) (hf j (by omega)) (hD j q (by omega) hq)
    rw [pull_s]; omega
def sumD : Nat → Nat → Int
  | 0, _ => 0
  | m + 1, x => sumD m (x / 5) + (((x % 5 : Nat) : Int) - 2)
def worD (D : Nat → Nat → Int) : Nat → Nat → Int
  | 0, _ => 0
  | m + 1, x => worD D m (x / 5) + (((x % 5 : Nat) : Int) - 2) * pull D (dgt m (x / 5)) m m
theorem sumD_s (m x : Nat) : sumD (m + 1) x = sumD m (x / 5) + (((x % 5 : Nat) : Int) - 2) := rfl
theorem worD_s (D : Nat → Nat → Int) (m x : Nat) : worD D (m + 1) x = worD D m (x / 5) + (((x % 5 : Nat) : Int) - 2) * pull D (dgt m (x / 5)) m m := rfl
theorem sumD_r : ∀ m x : Nat, -(2 * (m : Int)) ≤ sumD m x ∧ sumD m x ≤ 2 * (m : Int)
  | 0, _ => by simp [sumD]
  | m + 1, x => by
    have := sumD_r m (x / 5)
    rw [sumD_s]; omega
theorem mul_rr {x y c e : Int} (hc : 0 ≤ c) (hx : -c ≤ x ∧ x ≤ c) (hy : -e ≤ y ∧ y ≤ e) : -(c * e) ≤ x * y ∧ x * y ≤ c * e := by
  rcases Int.le_total 0 y with h | h
  · exact mul_r hc hx ⟨h, hy.2⟩
  · have := mul_r (y := -y) (e := e) hc hx ⟨by omega, by omega⟩
    rw [Int.mul_neg] at this
    omega
theorem worD_r {D : Nat → Nat → Int} {n : Nat} (hD : okR n D 30) (hn : n ≤ 6) : ∀ m x : Nat, m ≤ n → -(720 * (m : Int)) ≤ worD D m x ∧ worD D m x ≤ 720 * (m : Int)
  | 0, _, _ => by simp [worD]
  | m + 1, x, hm => by
    have ih := worD_r hD hn m (x / 5) (by omega)
    have h1 := pull_r hD (f := dgt m (x / 5)) (q := m) (by omega) m (by omega) (fun i _ => dgt_r m (x / 5) i)
    have h2 := mul_rr (x := ((x % 5 : Nat) : Int) - 2) (y := pull D (dgt m (x / 5)) m m) (c := 2) (e := 360) (by omega) (by omega) (by omega)
    rw [worD_s]; omega
def p3 (n : Nat) (D : Nat → Nat → Int) (x : Nat) : Bool := decide (sumD n x = 1 ∧ worD D n x > 0)
/-- o is a Laws; its weights are f -/
def lsw (w : fw_S) (o t a wa n : Nat) (D : Nat → Nat → Int) (fc br : Int) (f : Nat → Int) : Prop := fw_g w o (.inl (1, [.ref t, .ref wa, .int (iI fc), .int (iI br)])) ∧ tb w t a n D ∧ fw_g w wa (.inr (6, .inl f)) ∧ wa ≠ a
theorem lsw.l {w : fw_S} {o t a wa n : Nat} {D : Nat → Nat → Int} {fc br : Int} {f : Nat → Int} (h : lsw w o t a wa n D fc br f) : lst w o t a wa n D fc br := ⟨h.1, h.2.1, ⟨f, h.2.2.1⟩, h.2.2.2⟩
theorem lsw.of {w w' : fw_S} {o t a wa n : Nat} {D : Nat → Nat → Int} {fc br fc' br' : Int} {f : Nat → Int} (h : lsw w o t a wa n D fc br f) (h' : lst w' o t a wa n D fc' br') (hk : kp w w' (fun k => k = o)) : lsw w' o t a wa n D fc' br' f := ⟨h'.1, h'.2.1, hk.g (fun q => h.l.ot.2.2.1 q.symm) h.2.2.1, h.2.2.2⟩
theorem c_pullOn {d o t a wa n q : Nat} {D : Nat → Nat → Int} {fc br : Int} {f : Nat → Int} {w : fw_S} (hd : 1 ≤ d) (h : lsw w o t a wa n D fc br f) (hD : okR n D 30) (hf : ∀ i, i < q → -2 ≤ f i ∧ f i ≤ 2) (hq : q < n) : fw_K d mX1_pullOn [.ref o, .int (iI q)] w (some (.int (iI (pull D f q q)))) w := by
  obtain ⟨h1, h2, h3, h4⟩ := h
  have h5 := h2.1
  have hn := h2.2.2
  refine fw_K.of (by decide) (Nat.le_of_ble_eq_true rfl) (by simp [Value.category]) (rfl) ?_
  show fw_R _ _ 0 [some (.ref o), some (.int (iI q)), none, none] [] _ _ _
  refine fr_iconst dX1_pullOn_0 ?_
  refine fr_istore_n dX1_pullOn_1 rfl (by decide) rfl rfl ?_
  dsimp only [List.set, Option.toList, List.cons_append, List.nil_append]
  refine fr_iconst dX1_pullOn_2 ?_
  refine fr_istore_n dX1_pullOn_3 rfl (by decide) rfl rfl ?_
  dsimp only [List.set, Option.toList, List.cons_append, List.nil_append]
  refine up_loop (fun j => fw_R mX1_pullOn d 4 [some (.ref o), some (.int (iI q)), some (.int (iI (pull D f q j))), some (.int (iI j))] [] w (some (.int (iI (pull D f q q)))) w) q ?_ ?_ 0 (Nat.zero_le _)
  · refine fr_iload_n dX1_pullOn_4 rfl ?_
    refine fr_iload_n dX1_pullOn_5 rfl ?_
    refine fr_icmp_ge (tgt := 34) dX1_pullOn_6 (by decide) (by omega) (by omega) (fun c => ?_) (fun c => ?_)
    · refine fr_iload_n dX1_pullOn_34 rfl ?_
      exact fr_iret dX1_pullOn_35 rfl (rfl) (rfl)
    · omega
  · intro j hj ih
    rw [pull_s] at ih
    refine fr_iload_n dX1_pullOn_4 rfl ?_
    refine fr_iload_n dX1_pullOn_5 rfl ?_
    refine fr_icmp_ge (tgt := 34) dX1_pullOn_6 (by decide) (by omega) (by omega) (fun c => ?_) (fun c => ?_)
    · omega
    refine fr_iload_n dX1_pullOn_9 rfl ?_
    refine fr_aload_n dX1_pullOn_10 rfl ?_
    refine fr_get fX1_pullOn_11 h1 rfl ?_
    refine fr_iload_n dX1_pullOn_14 rfl ?_
    refine fr_iald (j) dX1_pullOn_15 h3 (by omega) (by omega) (by decide) ?_
    refine fr_aload_n dX1_pullOn_16 rfl ?_
    refine fr_get fX1_pullOn_17 h1 rfl ?_
    refine fr_iload_n dX1_pullOn_20 rfl ?_
    refine fr_iload_n dX1_pullOn_21 rfl ?_
    refine fr_callV kX1_pullOn_22 (c_between (d := 0) h2 (i := j) (j := q) (by omega) hq) (by omega) h5 rfl rfl rfl ?_
    dsimp only [List.set, Option.toList, List.cons_append, List.nil_append]
    refine fr_imul dX1_pullOn_25 ?_
    refine fr_iadd dX1_pullOn_26 ?_
    refine fr_istore_n dX1_pullOn_27 rfl (by decide) rfl rfl ?_
    dsimp only [List.set, Option.toList, List.cons_append, List.nil_append]
    refine fr_iinc dX1_pullOn_28 rfl (by decide) rfl rfl ?_
    dsimp only [List.set, Option.toList, List.cons_append, List.nil_append]
    refine fr_goto (tgt := 4) dX1_pullOn_31 (by decide) ?_
    exact ih
/-- the cases whose first figures are x's -/
theorem c_judgeWeights {o t a wa n : Nat} {D : Nat → Nat → Int} (hD : okR n D 30) : ∀ (r : Nat), 1 ≤ r → ∀ (q x : Nat) (f : Nat → Int) (w : fw_S), q + r = n → x < 5 ^ q → lsw w o t a wa n D (scF (p3 n D) (x * 5 ^ r)) (scC (p3 n D) (x * 5 ^ r)) f → (∀ j, j < q → f j = dgt q x j) →
    ∃ (w' : fw_S) (f' : Nat → Int), fw_K (r + 2) mX1_judgeWeights [.ref o, .int (iI q), .int (iI x), .int (iI (sumD q x)), .int (iI (worD D q x))] w none w' ∧ lsw w' o t a wa n D (scF (p3 n D) ((x + 1) * 5 ^ r)) (scC (p3 n D) ((x + 1) * 5 ^ r)) f' ∧ (∀ j, j < q → f' j = f j) ∧ kp w w' (fun k => k = o ∨ k = wa) := by
  intro r
  induction r with
  | zero => intro h; omega
  | succ r ih =>
    intro _ q x f w hqr hx hl hf
    have hn := hl.2.1.2.2
    have h1 := hl.1
    have h3 := hl.2.1.1
    have hq5 : (5 : Nat) ^ q ≤ 5 ^ 6 := Nat.pow_le_pow_right (by decide) (by omega)
    have hx6 : x < 15625 := Nat.lt_of_lt_of_le hx hq5
    have hsr := sumD_r q x
    have hwr := worD_r hD hn.2 q x (by omega)
    have hfr : ∀ i, i < q → -2 ≤ f i ∧ f i ≤ 2 := fun i hi => by rw [hf i hi]; exact dgt_r q x i
    have hpe : pull D f q q = pull D (dgt q x) q q := pull_cg (fun i hi => hf i hi)
    have hpr := pull_r hD (f := f) (q := q) (by omega) q (by omega) hfr
    have hpull := c_pullOn (d := r + 2) (by omega) hl hD hfr (show q < n by omega)
    have hs5 : ∀ u : Nat, u < 5 → sumD (q + 1) (5 * x + u) = sumD q x + ((u : Int) - 2) := by
      intro u hu
      rw [sumD_s, show (5 * x + u) / 5 = x by omega, show (5 * x + u) % 5 = u by omega]
    have hw5 : ∀ u : Nat, u < 5 → worD D (q + 1) (5 * x + u) = worD D q x + ((u : Int) - 2) * pull D f q q := by
      intro u hu
      rw [worD_s, show (5 * x + u) / 5 = x by omega, show (5 * x + u) % 5 = u by omega, hpe]
    rcases Nat.eq_zero_or_pos r with hr0 | hr0
    · -- the last point: the sum leaves it no choice
      subst hr0
      have hqn : n = q + 1 := by omega
      have hone : x * 5 ^ (0 + 1) = 5 * x := by omega
      have hone' : (x + 1) * 5 ^ (0 + 1) = 5 * x + 5 := by omega
      rw [hone] at hl
      rw [hone']
      have hskip : ∀ {v : fw_S} {m m' : Nat} {g : Nat → Int}, lsw v o t a wa n D (scF (p3 n D) m) (scC (p3 n D) m) g → m ≤ m' → (∀ k, m ≤ k → k < m' → p3 n D k = false) → lsw v o t a wa n D (scF (p3 n D) m') (scC (p3 n D) m') g := by
        intro v m m' g hl hm hk
        obtain ⟨e1, e2⟩ := sc_skip hm hk
        rw [e1, e2]; exact hl
      have hp3 : ∀ u : Nat, u < 5 → p3 n D (5 * x + u) = decide (sumD q x + ((u : Int) - 2) = 1 ∧ worD D q x + ((u : Int) - 2) * pull D f q q > 0) := by
        intro u hu
        unfold p3
        rw [hqn, hs5 u hu, hw5 u hu]
      by_cases hyes : ∃ u : Nat, u < 5 ∧ p3 n D (5 * x + u) = true
      · obtain ⟨u, hu, hpu⟩ := hyes
        have hpu' := hpu
        rw [hp3 u hu] at hpu'
        simp only [decide_eq_true_eq] at hpu'
        have hl1 := hskip hl (show 5 * x ≤ 5 * x + u by omega) (fun k k1 k2 => by
          obtain ⟨z, rfl⟩ : ∃ z, k = 5 * x + z := ⟨k - 5 * x, by omega⟩
          rw [hp3 z (by omega)]
          simp only [decide_eq_false_iff_not]
          intro z'; omega)
        obtain ⟨w1, k1, k2, k3⟩ := c_noteS (d := 0) hl1.l (by omega) hpu
        have hl2 := hl1.of k2 k3
        have hl3 := hskip hl2 (show 5 * x + u + 1 ≤ 5 * x + 5 by omega) (fun k k1 k2 => by
          obtain ⟨z, rfl⟩ : ∃ z, k = 5 * x + z := ⟨k - 5 * x, by omega⟩
          rw [hp3 z (by omega)]
          simp only [decide_eq_false_iff_not]
          intro z'; omega)
        have hmr := mul_rr (x := (u : Int) - 2) (y := pull D f q q) (c := 2) (e := 360) (by omega) (by omega) (by omega)
        have hlast : 1 - sumD q x = (u : Int) - 2 := by omega
        refine ⟨w1, f, ?_, hl3, fun _ _ => rfl, k3.mono (fun k hk => Or.inl hk)⟩
        refine fw_K.of (by decide) (Nat.le_of_ble_eq_true rfl) (by simp [Value.category]) (k3.1) ?_
        show fw_R _ _ 0 [some (.ref o), some (.int (iI q)), some (.int (iI x)), some (.int (iI (sumD q x))), some (.int (iI (worD D q x))), none, none, none] [] _ _ _
        refine fr_aload_n dX1_judgeWeights_0 rfl ?_
        refine fr_iload_n dX1_judgeWeights_1 rfl ?_
        refine fr_callV kX1_judgeWeights_2 (hpull) (by omega) h1 rfl rfl rfl ?_
        dsimp only [List.set, Option.toList, List.cons_append, List.nil_append]
        refine fr_istore dX1_judgeWeights_5 (by decide) rfl rfl ?_
        dsimp only [List.set, Option.toList, List.cons_append, List.nil_append]
        refine fr_iload_n dX1_judgeWeights_7 rfl ?_
        refine fr_aload_n dX1_judgeWeights_8 rfl ?_
        refine fr_get fX1_judgeWeights_9 h1 rfl ?_
        refine fr_get fX1_judgeWeights_12 h3 rfl ?_
        refine fr_iconst dX1_judgeWeights_15 ?_
        refine fr_isub dX1_judgeWeights_16 ?_
        refine fr_icmp_lt (tgt := 62) dX1_judgeWeights_17 (by decide) (by omega) (by omega) (fun c => ?_) (fun c => ?_)
        · omega
        refine fr_iconst dX1_judgeWeights_20 ?_
        refine fr_iload_n dX1_judgeWeights_21 rfl ?_
        refine fr_isub dX1_judgeWeights_22 ?_
        rw [hlast]
        refine fr_istore dX1_judgeWeights_23 (by decide) rfl rfl ?_
        dsimp only [List.set, Option.toList, List.cons_append, List.nil_append]
        refine fr_iload dX1_judgeWeights_25 rfl ?_
        refine fr_bipush dX1_judgeWeights_27 (by decide) ?_
        refine fr_icmp_lt (tgt := 61) dX1_judgeWeights_29 (by decide) (by omega) (by omega) (fun c => ?_) (fun c => ?_)
        · omega
        refine fr_iload dX1_judgeWeights_32 rfl ?_
        refine fr_iconst dX1_judgeWeights_34 ?_
        refine fr_icmp_gt (tgt := 61) dX1_judgeWeights_35 (by decide) (by omega) (by omega) (fun c => ?_) (fun c => ?_)
        · omega
        refine fr_iload dX1_judgeWeights_38 rfl ?_
        refine fr_iload dX1_judgeWeights_40 rfl ?_
        refine fr_iload dX1_judgeWeights_42 rfl ?_
        refine fr_imul dX1_judgeWeights_44 ?_
        refine fr_iadd dX1_judgeWeights_45 ?_
        refine fr_if_le (tgt := 61) dX1_judgeWeights_46 (by decide) (by omega) (fun c => ?_) (fun c => ?_)
        · omega
        refine fr_aload_n dX1_judgeWeights_49 rfl ?_
        refine fr_iload_n dX1_judgeWeights_50 rfl ?_
        refine fr_iconst dX1_judgeWeights_51 ?_
        refine fr_imul dX1_judgeWeights_52 ?_
        refine fr_iload dX1_judgeWeights_53 rfl ?_
        refine fr_iadd dX1_judgeWeights_55 ?_
        refine fr_iconst dX1_judgeWeights_56 ?_
        refine fr_iadd dX1_judgeWeights_57 ?_
        rw [show (x : Int) * 5 + ((u : Int) - 2) + 2 = ((5 * x + u : Nat) : Int) by omega]
        refine fr_callV kX1_judgeWeights_58 (k1) (by omega) h1 rfl rfl rfl ?_
        dsimp only [List.set, Option.toList, List.cons_append, List.nil_append]
        exact fr_vret dX1_judgeWeights_61 rfl rfl (rfl)
      · have hno : ∀ u : Nat, u < 5 → p3 n D (5 * x + u) = false := fun u hu => by
          cases hb : p3 n D (5 * x + u) with
          | false => rfl
          | true => exact absurd ⟨u, hu, hb⟩ hyes
        have hl3 := hskip hl (show 5 * x ≤ 5 * x + 5 by omega) (fun k k1 k2 => by
          obtain ⟨z, rfl⟩ : ∃ z, k = 5 * x + z := ⟨k - 5 * x, by omega⟩
          exact hno z (by omega))
        refine ⟨w, f, ?_, hl3, fun _ _ => rfl, kp.rf⟩
        refine fw_K.of (by decide) (Nat.le_of_ble_eq_true rfl) (by simp [Value.category]) (rfl) ?_
        show fw_R _ _ 0 [some (.ref o), some (.int (iI q)), some (.int (iI x)), some (.int (iI (sumD q x))), some (.int (iI (worD D q x))), none, none, none] [] _ _ _
        refine fr_aload_n dX1_judgeWeights_0 rfl ?_
        refine fr_iload_n dX1_judgeWeights_1 rfl ?_
        refine fr_callV kX1_judgeWeights_2 (hpull) (by omega) h1 rfl rfl rfl ?_
        dsimp only [List.set, Option.toList, List.cons_append, List.nil_append]
        refine fr_istore dX1_judgeWeights_5 (by decide) rfl rfl ?_
        dsimp only [List.set, Option.toList, List.cons_append, List.nil_append]
        refine fr_iload_n dX1_judgeWeights_7 rfl ?_
        refine fr_aload_n dX1_judgeWeights_8 rfl ?_
        refine fr_get fX1_judgeWeights_9 h1 rfl ?_
        refine fr_get fX1_judgeWeights_12 h3 rfl ?_
        refine fr_iconst dX1_judgeWeights_15 ?_
        refine fr_isub dX1_judgeWeights_16 ?_
        refine fr_icmp_lt (tgt := 62) dX1_judgeWeights_17 (by decide) (by omega) (by omega) (fun c => ?_) (fun c => ?_)
        · omega
        refine fr_iconst dX1_judgeWeights_20 ?_
        refine fr_iload_n dX1_judgeWeights_21 rfl ?_
        refine fr_isub dX1_judgeWeights_22 ?_
        refine fr_istore dX1_judgeWeights_23 (by decide) rfl rfl ?_
        dsimp only [List.set, Option.toList, List.cons_append, List.nil_append]
        refine fr_iload dX1_judgeWeights_25 rfl ?_
        refine fr_bipush dX1_judgeWeights_27 (by decide) ?_
        refine fr_icmp_lt (tgt := 61) dX1_judgeWeights_29 (by decide) (by omega) (by omega) (fun c2 => ?_) (fun c2 => ?_)
        · exact fr_vret dX1_judgeWeights_61 rfl rfl (rfl)
        refine fr_iload dX1_judgeWeights_32 rfl ?_
        refine fr_iconst dX1_judgeWeights_34 ?_
        refine fr_icmp_gt (tgt := 61) dX1_judgeWeights_35 (by decide) (by omega) (by omega) (fun c3 => ?_) (fun c3 => ?_)
        · exact fr_vret dX1_judgeWeights_61 rfl rfl (rfl)
        obtain ⟨u, hu⟩ : ∃ u : Nat, 1 - sumD q x = (u : Int) - 2 := ⟨(1 - sumD q x + 2).toNat, by omega⟩
        have hmr := mul_rr (x := 1 - sumD q x) (y := pull D f q q) (c := 2) (e := 360) (by omega) (by omega) (by omega)
        refine fr_iload dX1_judgeWeights_38 rfl ?_
        refine fr_iload dX1_judgeWeights_40 rfl ?_
        refine fr_iload dX1_judgeWeights_42 rfl ?_
        refine fr_imul dX1_judgeWeights_44 ?_
        refine fr_iadd dX1_judgeWeights_45 ?_
        refine fr_if_le (tgt := 61) dX1_judgeWeights_46 (by decide) (by omega) (fun c4 => ?_) (fun c4 => ?_)
        · exact fr_vret dX1_judgeWeights_61 rfl rfl (rfl)
        have := hno u (by omega)
        rw [hp3 u (by omega)] at this
        simp only [decide_eq_false_iff_not] at this
        exact absurd ⟨by omega, by rw [← hu]; omega⟩ this
    · -- a point that has five weights
      have hpw : x * 5 ^ (r + 1) = (5 * x + 0) * 5 ^ r := by rw [Nat.pow_succ, Nat.add_zero, Nat.mul_comm (5 ^ r) 5, ← Nat.mul_assoc, Nat.mul_comm x 5]
      have hpw' : (x + 1) * 5 ^ (r + 1) = (5 * x + 5) * 5 ^ r := by rw [Nat.pow_succ, Nat.mul_comm (5 ^ r) 5, ← Nat.mul_assoc, show (x + 1) * 5 = 5 * x + 5 by omega]
      have hx5 : ∀ u : Nat, u < 5 → 5 * x + u < 5 ^ (q + 1) := fun u hu => by rw [Nat.pow_succ]; omega
      have loop := lpE (M := mX1_judgeWeights) (d := r + 3) (pcH := 66) 5 (fun u _ => [some (.ref o), some (.int (iI q)), some (.int (iI x)), some (.int (iI (sumD q x))), some (.int (iI (worD D q x))), some (.int (iI (pull D f q q))), some (.int (iI ((u : Int) - 2))), none]) (fun u (_ : Unit) v => ∃ g, lsw v o t a wa n D (scF (p3 n D) ((5 * x + u) * 5 ^ r)) (scC (p3 n D) ((5 * x + u) * 5 ^ r)) g ∧ (∀ j, j < q → g j = f j) ∧ kp w v (fun k => k = o ∨ k = wa)) (by
        intro u _ v hu ⟨g, g1, g2, g3⟩
        have how := g1.l.ot
        have gl : lsw (fw_up v wa (.inr (6, .inl (fw_u g q ((u : Int) - 2))))) o t a wa n D (scF (p3 n D) ((5 * x + u) * 5 ^ r)) (scC (p3 n D) ((5 * x + u) * 5 ^ r)) (fw_u g q ((u : Int) - 2)) := by
          obtain ⟨a1, a2, a3, a4⟩ := g1
          exact ⟨a1.ne _ how.2.2.1, a2.kp (kp.up v wa _) (fun z => how.2.2.2.1 z.symm) (fun z => a4 z.symm), a3.up _, a4⟩
        obtain ⟨w2, g', k1, k2, k3, k4⟩ := ih hr0 (q + 1) (5 * x + u) (fw_u g q ((u : Int) - 2)) _ (by omega) (hx5 u hu) gl (by
          intro j hj
          rw [dgt_s]
          by_cases e : j = q
          · subst e; rw [fw_u_self, if_pos rfl, show (5 * x + u) % 5 = u by omega]
          · rw [fw_u_ne _ _ e, if_neg e, show (5 * x + u) / 5 = x by omega, g2 j (by omega), hf j (by omega)])
        refine ⟨(), w2, ⟨g', k2, fun j hj => by rw [k3 j (by omega), fw_u_ne _ _ (by omega)]; exact g2 j hj, (g3.trans ((kp.up v wa _).mono (fun k hk => Or.inr hk))).trans k4⟩, ?_⟩
        intro rr w' kk
        rw [hs5 u hu, hw5 u hu] at k1
        rw [show ((q + 1 : Nat) : Int) = (q : Int) + 1 by omega] at k1
        have hmr := mul_rr (x := (u : Int) - 2) (y := pull D f q q) (c := 2) (e := 360) (by omega) (by omega) (by omega)
        have g11 := g1.1
        have g13 := g1.2.2.1
        have gl1 := gl.1
        refine fr_iload dX1_judgeWeights_66 rfl ?_
        refine fr_iconst dX1_judgeWeights_68 ?_
        refine fr_icmp_gt (tgt := 117) dX1_judgeWeights_69 (by decide) (by omega) (by omega) (fun c => ?_) (fun c => ?_)
        · omega
        refine fr_aload_n dX1_judgeWeights_72 rfl ?_
        refine fr_get fX1_judgeWeights_73 g11 rfl ?_
        refine fr_iload_n dX1_judgeWeights_76 rfl ?_
        refine fr_iload dX1_judgeWeights_77 rfl ?_
        refine fr_iast (q) dX1_judgeWeights_79 g13 (by omega) (by omega) (by decide) ?_
        refine fr_iload_n dX1_judgeWeights_80 rfl ?_
        refine fr_iconst dX1_judgeWeights_81 ?_
        refine fr_imul dX1_judgeWeights_82 ?_
        refine fr_iload dX1_judgeWeights_83 rfl ?_
        refine fr_iadd dX1_judgeWeights_85 ?_
        refine fr_iconst dX1_judgeWeights_86 ?_
        refine fr_iadd dX1_judgeWeights_87 ?_
        rw [show (x : Int) * 5 + ((u : Int) - 2) + 2 = ((5 * x + u : Nat) : Int) by omega]
        refine fr_istore dX1_judgeWeights_88 (by decide) rfl rfl ?_
        dsimp only [List.set, Option.toList, List.cons_append, List.nil_append]
        refine fr_aload_n dX1_judgeWeights_90 rfl ?_
        refine fr_iload_n dX1_judgeWeights_91 rfl ?_
        refine fr_iconst dX1_judgeWeights_92 ?_
        refine fr_iadd dX1_judgeWeights_93 ?_
        refine fr_iload dX1_judgeWeights_94 rfl ?_
        refine fr_iload_n dX1_judgeWeights_96 rfl ?_
        refine fr_iload dX1_judgeWeights_97 rfl ?_
        refine fr_iadd dX1_judgeWeights_99 ?_
        refine fr_iload dX1_judgeWeights_100 rfl ?_
        refine fr_iload dX1_judgeWeights_102 rfl ?_
        refine fr_iload dX1_judgeWeights_104 rfl ?_
        refine fr_imul dX1_judgeWeights_106 ?_
        refine fr_iadd dX1_judgeWeights_107 ?_
        refine fr_callV kX1_judgeWeights_108 (k1) (by omega) gl1 rfl rfl rfl ?_
        dsimp only [List.set, Option.toList, List.cons_append, List.nil_append]
        refine fr_iinc dX1_judgeWeights_111 rfl (by decide) rfl rfl ?_
        dsimp only [List.set, Option.toList, List.cons_append, List.nil_append]
        refine fr_goto (tgt := 66) dX1_judgeWeights_114 (by decide) ?_
        rw [show (u : Int) - 2 + 1 = ((u + 1 : Nat) : Int) - 2 by omega]
        exact kk.wk (by simp [fw_le]))
      rw [hpw] at hl
      obtain ⟨_, wE, ⟨g, e1, e2, e3⟩, hr⟩ := loop 0 () w (by omega) ⟨f, hl, fun _ _ => rfl, kp.rf⟩
      refine ⟨wE, g, ?_, by rw [hpw']; exact e1, e2, e3⟩
      refine fw_K.of (by decide) (Nat.le_of_ble_eq_true rfl) (by simp [Value.category]) (e3.1) ?_
      show fw_R _ _ 0 [some (.ref o), some (.int (iI q)), some (.int (iI x)), some (.int (iI (sumD q x))), some (.int (iI (worD D q x))), none, none, none] [] _ _ _
      refine fr_aload_n dX1_judgeWeights_0 rfl ?_
      refine fr_iload_n dX1_judgeWeights_1 rfl ?_
      refine fr_callV kX1_judgeWeights_2 (hpull) (by omega) h1 rfl rfl rfl ?_
      dsimp only [List.set, Option.toList, List.cons_append, List.nil_append]
      refine fr_istore dX1_judgeWeights_5 (by decide) rfl rfl ?_
      dsimp only [List.set, Option.toList, List.cons_append, List.nil_append]
      refine fr_iload_n dX1_judgeWeights_7 rfl ?_
      refine fr_aload_n dX1_judgeWeights_8 rfl ?_
      refine fr_get fX1_judgeWeights_9 h1 rfl ?_
      refine fr_get fX1_judgeWeights_12 h3 rfl ?_
      refine fr_iconst dX1_judgeWeights_15 ?_
      refine fr_isub dX1_judgeWeights_16 ?_
      refine fr_icmp_lt (tgt := 62) dX1_judgeWeights_17 (by decide) (by omega) (by omega) (fun c => ?_) (fun c => ?_)
      · refine fr_bipush dX1_judgeWeights_62 (by decide) ?_
        refine fr_istore dX1_judgeWeights_64 (by decide) rfl rfl ?_
        dsimp only [List.set, Option.toList, List.cons_append, List.nil_append]
        refine hr _ _ ?_
        refine fr_iload dX1_judgeWeights_66 rfl ?_
        refine fr_iconst dX1_judgeWeights_68 ?_
        refine fr_icmp_gt (tgt := 117) dX1_judgeWeights_69 (by decide) (by omega) (by omega) (fun c2 => ?_) (fun c2 => ?_)
        · exact fr_vret dX1_judgeWeights_117 rfl rfl (rfl)
        · omega
      · omega
def bkL (n : Nat) (D : Nat → Nat → Int) (law : Nat) : Nat → Bool := if law = 0 then p0 n D else if law = 1 then p1 n D else if law = 2 then p2 n D else p3 n D
def limL (n law : Nat) : Nat := if law = 3 then 5 ^ n else if law = 1 then 4096 else 512
theorem c_judge {d o t a wa n law : Nat} {D : Nat → Nat → Int} {fc br : Int} {w : fw_S} (hd : 12 ≤ d) (h : lst w o t a wa n D fc br) (hD : okR n D 30) (hlaw : law ≤ 3) : ∃ w', fw_K d mX1_judge [.ref o, .int (iI law)] w none w' ∧ lst w' o t a wa n D (scF (bkL n D law) (limL n law)) (scC (bkL n D law) (limL n law)) ∧ kp w w' (fun k => k = o ∨ k = wa) := by
  have hD2 : okR n D 60 := fun i j hi hj => ⟨(hD i j hi hj).1, by have := (hD i j hi hj).2; omega⟩
  have hn := h.2.1.2.2
  have u1 := h.up (-4) br
  have u2 := u1.up (-4) 0
  have kk0 := ((kp.up w o (.inl (1, [.ref t, .ref wa, .int (iI (-4)), .int (iI br)]))).trans (kp.up _ o (.inl (1, [.ref t, .ref wa, .int (iI (-4)), .int (iI 0)])))).mono (fun k hk => (Or.inl hk : k = o ∨ k = wa))
  have h1 := h.1
  have u11 := u1.1
  have u21 := u2.1
  rcases (show law = 0 ∨ law = 1 ∨ law = 2 ∨ law = 3 by omega) with rfl | rfl | rfl | rfl
  · obtain ⟨w1, k1, k2, k3⟩ := c_judgeDetours (d := 2) (by omega) u2 hD2
    refine ⟨w1, ?_, k2, kk0.trans (k3.mono (fun k hk => Or.inl hk))⟩
    refine fw_K.of (by decide) (Nat.le_of_ble_eq_true rfl) (by simp [Value.category]) ((kk0.trans (k3.mono (fun k hk => Or.inl hk))).1) ?_
    show fw_R _ _ 0 [some (.ref o), some (.int (iI ((0 : Nat) : Int)))] [] _ _ _
    refine fr_aload_n dX1_judge_0 rfl ?_
    refine fr_bipush dX1_judge_1 (by decide) ?_
    refine fr_put fX1_judge_3 pfX1_2 h1 (by simp) rfl ?_
    dsimp only [List.set, Option.toList, List.cons_append, List.nil_append]
    refine fr_aload_n dX1_judge_6 rfl ?_
    refine fr_iconst dX1_judge_7 ?_
    refine fr_put fX1_judge_8 pfX1_3 u11 (by simp) rfl ?_
    dsimp only [List.set, Option.toList, List.cons_append, List.nil_append]
    refine fr_iload_n dX1_judge_11 rfl ?_
    refine fr_tableIn (tgt := 40) dX1_judge_12 (by decide) (by decide) (by decide) rfl (by decide) ?_
    refine fr_aload_n dX1_judge_40 rfl ?_
    refine fr_callV kX1_judge_41 (k1) (by omega) u21 rfl rfl rfl ?_
    dsimp only [List.set, Option.toList, List.cons_append, List.nil_append]
    refine fr_goto (tgt := 69) dX1_judge_44 (by decide) ?_
    exact fr_vret dX1_judge_69 rfl rfl (rfl)
  · obtain ⟨w1, k1, k2, k3⟩ := c_judgeTrees (d := 3) (by omega) u2 hD2
    refine ⟨w1, ?_, k2, kk0.trans (k3.mono (fun k hk => Or.inl hk))⟩
    refine fw_K.of (by decide) (Nat.le_of_ble_eq_true rfl) (by simp [Value.category]) ((kk0.trans (k3.mono (fun k hk => Or.inl hk))).1) ?_
    show fw_R _ _ 0 [some (.ref o), some (.int (iI ((1 : Nat) : Int)))] [] _ _ _
    refine fr_aload_n dX1_judge_0 rfl ?_
    refine fr_bipush dX1_judge_1 (by decide) ?_
    refine fr_put fX1_judge_3 pfX1_2 h1 (by simp) rfl ?_
    dsimp only [List.set, Option.toList, List.cons_append, List.nil_append]
    refine fr_aload_n dX1_judge_6 rfl ?_
    refine fr_iconst dX1_judge_7 ?_
    refine fr_put fX1_judge_8 pfX1_3 u11 (by simp) rfl ?_
    dsimp only [List.set, Option.toList, List.cons_append, List.nil_append]
    refine fr_iload_n dX1_judge_11 rfl ?_
    refine fr_tableIn (tgt := 47) dX1_judge_12 (by decide) (by decide) (by decide) rfl (by decide) ?_
    refine fr_aload_n dX1_judge_47 rfl ?_
    refine fr_callV kX1_judge_48 (k1) (by omega) u21 rfl rfl rfl ?_
    dsimp only [List.set, Option.toList, List.cons_append, List.nil_append]
    refine fr_goto (tgt := 69) dX1_judge_51 (by decide) ?_
    exact fr_vret dX1_judge_69 rfl rfl (rfl)
  · obtain ⟨w1, k1, k2, k3⟩ := c_judgeNests (d := 2) (by omega) u2 hD2
    refine ⟨w1, ?_, k2, kk0.trans (k3.mono (fun k hk => Or.inl hk))⟩
    refine fw_K.of (by decide) (Nat.le_of_ble_eq_true rfl) (by simp [Value.category]) ((kk0.trans (k3.mono (fun k hk => Or.inl hk))).1) ?_
    show fw_R _ _ 0 [some (.ref o), some (.int (iI ((2 : Nat) : Int)))] [] _ _ _
    refine fr_aload_n dX1_judge_0 rfl ?_
    refine fr_bipush dX1_judge_1 (by decide) ?_
    refine fr_put fX1_judge_3 pfX1_2 h1 (by simp) rfl ?_
    dsimp only [List.set, Option.toList, List.cons_append, List.nil_append]
    refine fr_aload_n dX1_judge_6 rfl ?_
    refine fr_iconst dX1_judge_7 ?_
    refine fr_put fX1_judge_8 pfX1_3 u11 (by simp) rfl ?_
    dsimp only [List.set, Option.toList, List.cons_append, List.nil_append]
    refine fr_iload_n dX1_judge_11 rfl ?_
    refine fr_tableIn (tgt := 54) dX1_judge_12 (by decide) (by decide) (by decide) rfl (by decide) ?_
    refine fr_aload_n dX1_judge_54 rfl ?_
    refine fr_callV kX1_judge_55 (k1) (by omega) u21 rfl rfl rfl ?_
    dsimp only [List.set, Option.toList, List.cons_append, List.nil_append]
    refine fr_goto (tgt := 69) dX1_judge_58 (by decide) ?_
    exact fr_vret dX1_judge_69 rfl rfl (rfl)
  · obtain ⟨a1, a2, ⟨f, a3⟩, a4⟩ := u2
    obtain ⟨w1, f', k1, k2, k3, k4⟩ := c_judgeWeights (o := o) (t := t) (a := a) (wa := wa) hD n (by omega) 0 0 f _ (by omega) (by decide) (by rw [Nat.zero_mul]; exact ⟨a1, a2, a3, a4⟩) (fun j hj => absurd hj (Nat.not_lt_zero j))
    rw [Nat.zero_add, Nat.one_mul] at k2
    refine ⟨w1, ?_, k2.l, kk0.trans k4⟩
    refine fw_K.of (by decide) (Nat.le_of_ble_eq_true rfl) (by simp [Value.category]) ((kk0.trans k4).1) ?_
    show fw_R _ _ 0 [some (.ref o), some (.int (iI ((3 : Nat) : Int)))] [] _ _ _
    refine fr_aload_n dX1_judge_0 rfl ?_
    refine fr_bipush dX1_judge_1 (by decide) ?_
    refine fr_put fX1_judge_3 pfX1_2 h1 (by simp) rfl ?_
    dsimp only [List.set, Option.toList, List.cons_append, List.nil_append]
    refine fr_aload_n dX1_judge_6 rfl ?_
    refine fr_iconst dX1_judge_7 ?_
    refine fr_put fX1_judge_8 pfX1_3 u11 (by simp) rfl ?_
    dsimp only [List.set, Option.toList, List.cons_append, List.nil_append]
    refine fr_iload_n dX1_judge_11 rfl ?_
    refine fr_tableOut (tgt := 61) dX1_judge_12 (by decide) (by decide) (by decide) ?_
    refine fr_aload_n dX1_judge_61 rfl ?_
    refine fr_iconst dX1_judge_62 ?_
    refine fr_iconst dX1_judge_63 ?_
    refine fr_iconst dX1_judge_64 ?_
    refine fr_iconst dX1_judge_65 ?_
    refine fr_callV kX1_judge_66 (k1) (by omega) a1 rfl rfl rfl ?_
    dsimp only [List.set, Option.toList, List.cons_append, List.nil_append]
    exact fr_vret dX1_judge_69 rfl rfl (rfl)
