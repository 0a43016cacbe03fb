/-! ===== two rows of the kit's COUNTS.to-paste (drawers) ===== -/
theorem fb_holes : ∀ (m n : Nat) (f : Nat → Nat), (∀ i, i < n → f i < m) → (∀ i j, i < j → j < n → f i ≠ f j) → n ≤ m := by
  intro m
  induction m with
  | zero =>
    intro n f h1 _
    rcases Nat.eq_zero_or_pos n with h | h
    · omega
    · exact absurd (h1 0 h) (Nat.not_lt_zero _)
  | succ m ih =>
    intro n f h1 h2
    by_cases hx : ∃ i, i < n ∧ f i = m
    · obtain ⟨a, ha, hfa⟩ := hx
      have hg := ih (n - 1) (fun i => if i < a then f i else f (i + 1)) (by
        intro i hi
        by_cases q : i < a
        · simp only [if_pos q]
          have b1 := h1 i (by omega)
          have b2 := h2 i a q ha
          omega
        · simp only [if_neg q]
          have b1 := h1 (i + 1) (by omega)
          have b2 := h2 a (i + 1) (by omega) (by omega)
          omega) (by
        intro i j hij hj
        by_cases q : i < a
        · by_cases r : j < a
          · simp only [if_pos q, if_pos r]
            exact h2 i j hij (by omega)
          · simp only [if_pos q, if_neg r]
            exact h2 i (j + 1) (by omega) (by omega)
        · have r : ¬ j < a := by omega
          simp only [if_neg q, if_neg r]
          exact h2 (i + 1) (j + 1) (by omega) (by omega))
      omega
    · have hg := ih n f (fun i hi => by
        have b1 := h1 i hi
        have b2 : f i ≠ m := fun e => hx ⟨i, hi, e⟩
        omega) h2
      omega
/-- two of them in one place -/
theorem fb_twice {m n : Nat} {f : Nat → Nat} (h : ∀ i, i < n → f i < m) (hm : m < n) : ∃ i j, i < j ∧ j < n ∧ f i = f j := by
  refine Classical.byContradiction fun hx => ?_
  have := fb_holes m n f h (fun i j hij hj e => hx ⟨i, j, hij, hj, e⟩)
  omega
/-- as many as places, none twice: each place is taken -/
theorem fb_onto {n : Nat} {f : Nat → Nat} (h : ∀ i, i < n → f i < n) (h2 : ∀ i j, i < j → j < n → f i ≠ f j) {y : Nat} (hy : y < n) : ∃ i, i < n ∧ f i = y := by
  refine Classical.byContradiction fun hx => ?_
  have hne : ∀ i, i < n → f i ≠ y := fun i hi e => hx ⟨i, hi, e⟩
  have := fb_holes (n - 1) n (fun i => if f i < y then f i else f i - 1) (by
    intro i hi
    have b1 := h i hi
    have b2 := hne i hi
    by_cases q : f i < y
    · simp only [if_pos q]; omega
    · simp only [if_neg q]; omega) (by
    intro i j hij hj
    have b1 := hne i (by omega)
    have b2 := hne j hj
    have b3 := h2 i j hij hj
    by_cases q : f i < y
    · by_cases r : f j < y
      · simp only [if_pos q, if_pos r]; exact b3
      · simp only [if_pos q, if_neg r]; omega
    · by_cases r : f j < y
      · simp only [if_neg q, if_pos r]; omega
      · simp only [if_neg q, if_neg r]; omega)
  omega

/-! orders: mathematics -/
/-- the point at turn t of an order -/
def pAt (o t : Nat) : Nat := o / 2 ^ (3 * t) % 8
theorem pAt_lt (o t : Nat) : pAt o t < 8 := Nat.mod_lt _ (by decide)
/-- the points of the first t turns, as bits -/
def msk (o : Nat) : Nat → Nat
  | 0 => 0
  | t + 1 => msk o t ||| 2 ^ pAt o t
theorem msk_s (o t : Nat) : msk o (t + 1) = msk o t ||| 2 ^ pAt o t := rfl
theorem msk_bit (o i : Nat) : ∀ t, (msk o t).testBit i = true ↔ ∃ e, e < t ∧ pAt o e = i
  | 0 => by simp [msk]
  | t + 1 => by
    rw [msk_s, Nat.testBit_or, Bool.or_eq_true, msk_bit o i t, Nat.testBit_two_pow]
    constructor
    · rintro (⟨e, h1, h2⟩ | h)
      · exact ⟨e, by omega, h2⟩
      · exact ⟨t, by omega, by simpa using h⟩
    · rintro ⟨e, h1, h2⟩
      by_cases q : e = t
      · subst q; right; simpa using h2
      · left; exact ⟨e, by omega, h2⟩
theorem msk_lt (o : Nat) : ∀ t, msk o t < 256
  | 0 => (by show (0 : Nat) < 256; decide)
  | t + 1 => by
    rw [msk_s]
    have h1 := msk_lt o t
    have h2 := pAt_lt o t
    have h3 : 2 ^ pAt o t < 2 ^ 8 := Nat.pow_lt_pow_right (by decide) h2
    exact Nat.or_lt_two_pow (n := 8) h1 h3
/-- an order of n points -/
def vOrd (n o : Nat) : Prop := o < 2 ^ (3 * n) ∧ msk o n = 2 ^ n - 1
theorem vOrd.on {n o : Nat} (h : vOrd n o) : (∀ i, i < n → ∃ e, e < n ∧ pAt o e = i) ∧ (∀ e, e < n → pAt o e < n) := by
  refine ⟨fun i hi => ?_, fun e he => ?_⟩
  · rw [← msk_bit o i n, h.2, Nat.testBit_two_pow_sub_one]; simpa using hi
  · have : (msk o n).testBit (pAt o e) = true := (msk_bit o _ n).mpr ⟨e, he, rfl⟩
    rw [h.2, Nat.testBit_two_pow_sub_one] at this
    simpa using this
theorem onto_inj {n : Nat} {f : Nat → Nat} (h : ∀ i, i < n → ∃ e, e < n ∧ f e = i) : ∀ i j, i < j → j < n → f i ≠ f j := by
  intro i j hij hj hf
  have hg : ∀ y, y < n → ∃ e, (e < n ∧ f e = y) ∧ ∀ k, k < e → ¬ (k < n ∧ f k = y) := fun y hy => by
    obtain ⟨k, h1, h2⟩ := pk_least (fun e => e < n ∧ f e = y) (h y hy)
    exact ⟨k, h1, h2⟩
  have hgt : ∀ y, ∃ e, y < n → ((e < n ∧ f e = y) ∧ ∀ k, k < e → ¬ (k < n ∧ f k = y)) := fun y => by
    by_cases hy : y < n
    · obtain ⟨e, he⟩ := hg y hy; exact ⟨e, fun _ => he⟩
    · exact ⟨0, fun z => absurd z hy⟩
  obtain ⟨g, hgs⟩ := Classical.axiomOfChoice hgt
  have hnj : ∀ y, y < n → g y ≠ j := fun y hy e => by
    have h1 := hgs y hy
    rw [e] at h1
    exact h1.2 i hij ⟨by omega, hf.trans h1.1.2⟩
  have := fb_holes (n - 1) n (fun y => if g y < j then g y else g y - 1) (by
    intro y hy
    have b1 := (hgs y hy).1.1
    have b2 := hnj y hy
    by_cases q : g y < j
    · simp only [if_pos q]; omega
    · simp only [if_neg q]; omega) (by
    intro x y hxy hy
    have b1 := hnj x (by omega)
    have b2 := hnj y hy
    have b3 : g x ≠ g y := fun e => by
      have e1 := (hgs x (by omega)).1.2
      have e2 := (hgs y hy).1.2
      rw [e] at e1
      omega
    by_cases q : g x < j <;> by_cases q2 : g y < j
    · simp only [if_pos q, if_pos q2]; exact b3
    · simp only [if_pos q, if_neg q2]; omega
    · simp only [if_neg q, if_pos q2]; omega
    · simp only [if_neg q, if_neg q2]; omega)
  omega
theorem vOrd.inj {n o : Nat} (h : vOrd n o) {e e' : Nat} (he : e < n) (he' : e' < n) (hq : pAt o e = pAt o e') : e = e' := by
  rcases Nat.lt_trichotomy e e' with q | q | q
  · exact absurd hq (onto_inj h.on.1 e e' q he')
  · exact q
  · exact absurd hq.symm (onto_inj h.on.1 e' e q he)
theorem vOrd.of {n o : Nat} (h1 : o < 2 ^ (3 * n)) (h2 : ∀ e, e < n → pAt o e < n) (h3 : ∀ e e', e < e' → e' < n → pAt o e ≠ pAt o e') : vOrd n o := by
  refine ⟨h1, ?_⟩
  apply Nat.eq_of_testBit_eq
  intro i
  rw [Nat.testBit_two_pow_sub_one]
  by_cases hi : i < n
  · obtain ⟨e, he, hf⟩ := fb_onto h2 h3 hi
    rw [(msk_bit o i n).mpr ⟨e, he, hf⟩]; simp [hi]
  · have : ¬ (msk o n).testBit i = true := fun z => by
      obtain ⟨e, he, hf⟩ := (msk_bit o i n).mp z
      have := h2 e he
      omega
    simp [hi]; simpa using this
theorem pAt_add {x p t : Nat} (hx : x < 2 ^ (3 * t)) (hp : p < 8) : (∀ e, e < t → pAt (x + p * 2 ^ (3 * t)) e = pAt x e) ∧ pAt (x + p * 2 ^ (3 * t)) t = p := by
  refine ⟨fun e he => ?_, ?_⟩
  · unfold pAt
    have h1 : p * 2 ^ (3 * t) = (p * 2 ^ (3 * (t - e - 1)) * 8) * 2 ^ (3 * e) := by
      rw [Nat.mul_assoc, Nat.mul_assoc]
      congr 1
      rw [show (8 : Nat) = 2 ^ 3 from rfl, ← Nat.pow_add, ← Nat.pow_add]
      congr 1
      omega
    rw [h1, Nat.add_mul_div_right _ _ (Nat.two_pow_pos _), Nat.add_mul_mod_self_right]
  · unfold pAt
    rw [Nat.add_mul_div_right _ _ (Nat.two_pow_pos _), Nat.div_eq_of_lt hx, Nat.zero_add, Nat.mod_eq_of_lt hp]
theorem pAt_ext {a b : Nat} : ∀ {n : Nat}, (∀ e, e < n → pAt a e = pAt b e) → a % 2 ^ (3 * n) = b % 2 ^ (3 * n)
  | 0, _ => by simp [Nat.mod_one]
  | n + 1, h => by
    have ih := pAt_ext (a := a) (b := b) (n := n) (fun e he => h e (by omega))
    have h1 := h n (by omega)
    unfold pAt at h1
    rw [show 3 * (n + 1) = 3 * n + 3 by omega, Nat.pow_add, Nat.mod_mul, Nat.mod_mul, ih, h1]
theorem vOrd.ext {n a b : Nat} (ha : vOrd n a) (hb : vOrd n b) (h : ∀ e, e < n → pAt a e = pAt b e) : a = b := by
  have := pAt_ext h
  rwa [Nat.mod_eq_of_lt ha.1, Nat.mod_eq_of_lt hb.1] at this
/-- the points of a are lower, from the first on -/
def lex (n a b : Nat) : Prop := ∃ k, k < n ∧ (∀ j, j < k → pAt a j = pAt b j) ∧ pAt a k < pAt b k
theorem lex_tri {n a b : Nat} (ha : vOrd n a) (hb : vOrd n b) : a = b ∨ lex n a b ∨ lex n b a := by
  by_cases h : ∃ e, e < n ∧ pAt a e ≠ pAt b e
  · obtain ⟨k, ⟨h1, h2⟩, h3⟩ := pk_least _ h
    have h4 : ∀ j, j < k → pAt a j = pAt b j := fun j hj => Classical.byContradiction (fun z => h3 j hj ⟨by omega, z⟩)
    rcases Nat.lt_or_gt_of_ne h2 with q | q
    · exact Or.inr (Or.inl ⟨k, h1, h4, q⟩)
    · exact Or.inr (Or.inr ⟨k, h1, fun j hj => (h4 j hj).symm, q⟩)
  · exact Or.inl (ha.ext hb (fun e he => Classical.byContradiction (fun z => h ⟨e, he, z⟩)))
theorem lex_asym {n a b : Nat} (h : lex n a b) : ¬ lex n b a := by
  rintro ⟨k', h1', h2', h3'⟩
  obtain ⟨k, h1, h2, h3⟩ := h
  rcases Nat.lt_trichotomy k k' with q | q | q
  · have := h2' k q; omega
  · subst q; omega
  · have := h2 k' q; omega
theorem lex_irr {n a : Nat} : ¬ lex n a a := by rintro ⟨k, h1, h2, h3⟩; omega
/-- the least place of the point p behind those of the first e turns, which are at g -/
def mxP (D : Nat → Nat → Int) (o : Nat) (g : Nat → Int) (p : Nat) : Nat → Int
  | 0 => 0
  | e + 1 => max (mxP D o g p e) (g (pAt o e) + D (pAt o e) p)
theorem mxP_s (D : Nat → Nat → Int) (o : Nat) (g : Nat → Int) (p e : Nat) : mxP D o g p (e + 1) = max (mxP D o g p e) (g (pAt o e) + D (pAt o e) p) := rfl
theorem mxP_cg {D : Nat → Nat → Int} {o : Nat} {g g' : Nat → Int} {p : Nat} : ∀ {t : Nat}, (∀ e, e < t → g (pAt o e) = g' (pAt o e)) → mxP D o g p t = mxP D o g' p t
  | 0, _ => rfl
  | t + 1, h => by rw [mxP_s, mxP_s, mxP_cg (fun e he => h e (by omega)), h t (by omega)]
/-- the places of the points of the first t turns -/
def PLs (D : Nat → Nat → Int) (o : Nat) : Nat → Nat → Int
  | 0 => fun _ => 0
  | t + 1 => fw_u (PLs D o t) (pAt o t) (mxP D o (PLs D o t) (pAt o t) t)
theorem PLs_s (D : Nat → Nat → Int) (o t : Nat) : PLs D o (t + 1) = fw_u (PLs D o t) (pAt o t) (mxP D o (PLs D o t) (pAt o t) t) := rfl
theorem mxP_r {D : Nat → Nat → Int} {n o : Nat} (hD : okR n D 30) {g : Nat → Int} {p : Nat} {B : Int} (hp : p < n) (hB : 0 ≤ B) : ∀ {t : Nat}, (∀ e, e < t → pAt o e < n ∧ 0 ≤ g (pAt o e) ∧ g (pAt o e) ≤ B) → 0 ≤ mxP D o g p t ∧ mxP D o g p t ≤ B + 30
  | 0, _ => by unfold mxP; omega
  | t + 1, h => by
    have ih := mxP_r hD (o := o) (g := g) hp hB (t := t) (fun e he => h e (by omega))
    have h1 := h t (by omega)
    have h2 := hD (pAt o t) p h1.1 hp
    rw [mxP_s]; omega
theorem PLs_r {D : Nat → Nat → Int} {n o : Nat} (hD : okR n D 30) (ho : ∀ e, e < n → pAt o e < n) : ∀ t : Nat, t ≤ n → ∀ i, 0 ≤ PLs D o t i ∧ PLs D o t i ≤ 30 * (t : Int)
  | 0, _, i => by unfold PLs; simp
  | t + 1, ht, i => by
    have ih := PLs_r hD ho t (by omega)
    have h1 := mxP_r hD (o := o) (g := PLs D o t) (p := pAt o t) (B := 30 * (t : Int)) (ho t (by omega)) (by omega) (t := t) (fun e he => ⟨ho e (by omega), ih _⟩)
    have h2 := ih i
    rw [PLs_s]
    by_cases e : i = pAt o t
    · rw [e, fw_u_self]; omega
    · rw [fw_u_ne _ _ e]; omega
/-- a and b: the stretch of the places P, above and below, as some two points have it -/
def isST (n : Nat) (D : Nat → Nat → Int) (P : Nat → Int) (a b : Nat) : Prop := 1 ≤ b ∧ (∀ i j, i < n → j < n → i < j → 0 < D i j → ((P i - P j).natAbs : Int) * b ≤ a * D i j) ∧ ((a = 0 ∧ b = 1) ∨ ∃ i j, i < n ∧ j < n ∧ i < j ∧ 0 < D i j ∧ a = (P i - P j).natAbs ∧ (b : Int) = D i j)
theorem isST.le {n : Nat} {D : Nat → Nat → Int} {P : Nat → Int} {a b a' b' : Nat} (h : isST n D P a b) (h' : isST n D P a' b') : a * b' ≤ a' * b := by
  rcases h.2.2 with ⟨rfl, rfl⟩ | ⟨i, j, hi, hj, hij, hD, ha, hb⟩
  · rw [Nat.zero_mul]; exact Nat.zero_le _
  · have := h'.2.1 i j hi hj hij hD
    rw [← ha, ← hb] at this
    exact_mod_cast this
theorem isST.eq {n : Nat} {D : Nat → Nat → Int} {P : Nat → Int} {a b a' b' : Nat} (h : isST n D P a b) (h' : isST n D P a' b') : a * b' = a' * b := Nat.le_antisymm (h.le h') (h'.le h)
theorem low_eq {a b a' b' : Nat} (hb : 1 ≤ b) (hb' : 1 ≤ b') (h : a * b' = a' * b) : a / Nat.gcd a b = a' / Nat.gcd a' b' ∧ b / Nat.gcd a b = b' / Nat.gcd a' b' := by
  have g0 : 0 < Nat.gcd a b := Nat.gcd_pos_of_pos_right _ hb
  have g0' : 0 < Nat.gcd a' b' := Nat.gcd_pos_of_pos_right _ hb'
  have c1 : Nat.gcd (a / Nat.gcd a b) (b / Nat.gcd a b) = 1 := Nat.gcd_div_gcd_div_gcd_of_pos_right hb
  have c2 : Nat.gcd (a' / Nat.gcd a' b') (b' / Nat.gcd a' b') = 1 := Nat.gcd_div_gcd_div_gcd_of_pos_right hb'
  obtain ⟨x, hx⟩ := Nat.gcd_dvd_left a b
  obtain ⟨y, hy⟩ := Nat.gcd_dvd_right a b
  obtain ⟨x', hx'⟩ := Nat.gcd_dvd_left a' b'
  obtain ⟨y', hy'⟩ := Nat.gcd_dvd_right a' b'
  generalize Nat.gcd a b = g at *
  generalize Nat.gcd a' b' = g' at *
  subst hx; subst hy; subst hx'; subst hy'
  rw [Nat.mul_div_cancel_left _ g0, Nat.mul_div_cancel_left _ g0] at c1
  rw [Nat.mul_div_cancel_left _ g0', Nat.mul_div_cancel_left _ g0'] at c2
  rw [Nat.mul_div_cancel_left _ g0, Nat.mul_div_cancel_left _ g0, Nat.mul_div_cancel_left _ g0', Nat.mul_div_cancel_left _ g0']
  have h2 : x * y' = x' * y := by
    have e1 : g * x * (g' * y') = (g * g') * (x * y') := Nat.mul_mul_mul_comm g x g' y'
    have e2 : g' * x' * (g * y) = (g * g') * (x' * y) := by rw [Nat.mul_mul_mul_comm g' x' g y, Nat.mul_comm g' g]
    rw [e1, e2] at h
    exact Nat.eq_of_mul_eq_mul_left (Nat.mul_pos g0 g0') h
  have cp1 : Nat.Coprime x y := c1
  have cp2 : Nat.Coprime x' y' := c2
  have d1 : x ∣ x' := cp1.dvd_of_dvd_mul_right (by rw [← h2]; exact Nat.dvd_mul_right x y')
  have d2 : x' ∣ x := cp2.dvd_of_dvd_mul_right (by rw [h2]; exact Nat.dvd_mul_right x' y)
  have ex : x = x' := Nat.dvd_antisymm d1 d2
  refine ⟨ex, ?_⟩
  have d3 : y ∣ y' := cp1.symm.dvd_of_dvd_mul_left (by rw [h2]; exact Nat.dvd_mul_left y x')
  have d4 : y' ∣ y := cp2.symm.dvd_of_dvd_mul_left (by rw [← h2]; exact Nat.dvd_mul_left y' x)
  exact Nat.dvd_antisymm d3 d4
