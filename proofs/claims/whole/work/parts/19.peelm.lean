/-! peeled: mathematics -/
/-- symmetric, 0 on the diagonal, the three points' law -/
def met (n : Nat) (E : Nat → Nat → Int) : Prop := sym n E ∧ (∀ i, i < n → E i i = 0) ∧ (∀ i j k, i < n → j < n → k < n → E i j ≤ E i k + E k j)
theorem met.nn {n : Nat} {E : Nat → Nat → Int} (h : met n E) {i j : Nat} (hi : i < n) (hj : j < n) : 0 ≤ E i j := by
  have h1 := h.2.2 i i j hi hi hj
  have h2 := h.1 i j hi hj
  have h3 := h.2.1 i hi
  omega
/-- the greatest number of halves of a cut -/
def isMH (n : Nat) (E : Nat → Nat → Int) (cut : Nat) (m : Int) : Prop := m ≤ 60 ∧ (∀ a i k, a < n → i < n → k < n → pt cut a i = true → pt cut a k = true → m ≤ (E i a + E a k - E i k).tdiv 2) ∧ (m = 60 ∨ ∃ a i k, a < n ∧ i < n ∧ k < n ∧ pt cut a i = true ∧ pt cut a k = true ∧ m = (E i a + E a k - E i k).tdiv 2)
theorem isMH.uniq {n cut : Nat} {E : Nat → Nat → Int} {m m' : Int} (h : isMH n E cut m) (h' : isMH n E cut m') : m = m' := by
  obtain ⟨a1, a2, a3⟩ := h
  obtain ⟨b1, b2, b3⟩ := h'
  have l1 : m ≤ m' := by
    rcases b3 with e | ⟨a, i, k, ha, hi, hk, p, q, e⟩
    · omega
    · rw [e]; exact a2 a i k ha hi hk p q
  have l2 : m' ≤ m := by
    rcases a3 with e | ⟨a, i, k, ha, hi, hk, p, q, e⟩
    · omega
    · rw [e]; exact b2 a i k ha hi hk p q
  omega
noncomputable def mh (n : Nat) (E : Nat → Nat → Int) (cut : Nat) : Int := @dite _ (∃ m, isMH n E cut m) (Classical.propDecidable _) (fun h => Classical.choose h) (fun _ => 0)
theorem mh_eq {n cut : Nat} {E : Nat → Nat → Int} {m : Int} (h : isMH n E cut m) : mh n E cut = m := by
  have hx : ∃ m, isMH n E cut m := ⟨m, h⟩
  unfold mh
  rw [dif_pos hx]
  exact (Classical.choose_spec hx).uniq h
theorem isMH.nn {n cut : Nat} {E : Nat → Nat → Int} {m : Int} (hE : met n E) (h : isMH n E cut m) : 0 ≤ m := by
  rcases h.2.2 with e | ⟨a, i, k, ha, hi, hk, p, q, e⟩
  · omega
  · have := hE.2.2 i k a hi hk ha
    rw [e]
    exact Int.tdiv_nonneg (by omega) (by omega)
theorem td2 {z : Int} (h : 0 ≤ z) : z.tdiv 2 = z / 2 := Int.tdiv_eq_ediv_of_nonneg h
theorem pt_tri (cut i j k : Nat) : pt cut i j = (pt cut i k != pt cut k j) := by
  unfold pt; cases cut.testBit i <;> cases cut.testBit j <;> cases cut.testBit k <;> rfl
theorem met.cut {n cut : Nat} {E : Nat → Nat → Int} {m : Int} (hE : met n E) (h : isMH n E cut m) : met n (cutD E cut (-m)) := by
  have hm := h.nn hE
  refine ⟨fun i j hi hj => ?_, fun i hi => ?_, fun i j k hi hj hk => ?_⟩
  · unfold cutD; rw [pt_symm cut i j, hE.1 i j hi hj]
  · unfold cutD; rw [pt_self]; simp; exact hE.2.1 i hi
  · have h1 := hE.2.2 i j k hi hj hk
    have h3 := pt_tri cut i j k
    unfold cutD
    cases h4 : pt cut i k <;> cases h5 : pt cut k j <;> rw [h4, h5] at h3
    · rw [h3]; simpa using h1
    · rw [h3]; simp; omega
    · rw [h3]; simp; omega
    · rw [h3]
      have h6 := h.2.1 k i j hk hi hj (by rw [pt_symm]; exact h4) h5
      rw [td2 (by omega)] at h6
      simp
      omega
theorem cutD_le {n cut : Nat} {E : Nat → Nat → Int} {m : Int} (hm : 0 ≤ m) (h : okR n E 60) (hE : met n (cutD E cut (-m))) : okR n (cutD E cut (-m)) 60 := by
  intro i j hi hj
  refine ⟨hE.nn hi hj, ?_⟩
  have := (h i j hi hj).2
  unfold cutD; split <;> omega
/-- what is left, and what was taken, once s cuts are off (b: the law held) -/
noncomputable def plE (n : Nat) (D : Nat → Nat → Int) (b : Bool) : Nat → Nat → Nat → Int
  | 0 => fun i j => 2 * D i j
  | s + 1 => cutD (plE n D b s) (2 * (s + 1)) (-(if b = true then mh n (plE n D b s) (2 * (s + 1)) else 0))
noncomputable def plM (n : Nat) (D : Nat → Nat → Int) (b : Bool) (s : Nat) : Int := if b = true then mh n (plE n D b s) (2 * (s + 1)) else 0
theorem plE_s (n : Nat) (D : Nat → Nat → Int) (b : Bool) (s : Nat) : plE n D b (s + 1) = cutD (plE n D b s) (2 * (s + 1)) (-(plM n D b s)) := rfl
theorem mh_all (n : Nat) (E : Nat → Nat → Int) (cut : Nat) : ∃ m, isMH n E cut m := by
  -- by triples, one after another
  have step : ∀ (L : List (Nat × Nat × Nat)), (∀ q ∈ L, q.1 < n ∧ q.2.1 < n ∧ q.2.2 < n) → ∃ m : Int, m ≤ 60 ∧ (∀ q ∈ L, pt cut q.1 q.2.1 = true → pt cut q.1 q.2.2 = true → m ≤ (E q.2.1 q.1 + E q.1 q.2.2 - E q.2.1 q.2.2).tdiv 2) ∧ (m = 60 ∨ ∃ a i k, a < n ∧ i < n ∧ k < n ∧ pt cut a i = true ∧ pt cut a k = true ∧ m = (E i a + E a k - E i k).tdiv 2) := by
    intro L
    induction L with
    | nil => intro _; exact ⟨60, by omega, fun q hq => (by cases hq), Or.inl rfl⟩
    | cons q L ih =>
      intro hL
      obtain ⟨m, h1, h2, h3⟩ := ih (fun x hx => hL x (List.mem_cons_of_mem _ hx))
      have hq := hL q List.mem_cons_self
      by_cases hc : pt cut q.1 q.2.1 = true ∧ pt cut q.1 q.2.2 = true ∧ (E q.2.1 q.1 + E q.1 q.2.2 - E q.2.1 q.2.2).tdiv 2 < m
      · refine ⟨(E q.2.1 q.1 + E q.1 q.2.2 - E q.2.1 q.2.2).tdiv 2, by omega, fun x hx p1 p2 => ?_, Or.inr ⟨q.1, q.2.1, q.2.2, hq.1, hq.2.1, hq.2.2, hc.1, hc.2.1, rfl⟩⟩
        rcases List.mem_cons.mp hx with rfl | hx
        · exact Int.le_refl _
        · have := h2 x hx p1 p2; omega
      · refine ⟨m, h1, fun x hx p1 p2 => ?_, h3⟩
        rcases List.mem_cons.mp hx with rfl | hx
        · exact Int.not_lt.mp (fun z => hc ⟨p1, p2, z⟩)
        · exact h2 x hx p1 p2
  obtain ⟨m, h1, h2, h3⟩ := step ((List.range n).flatMap fun a => (List.range n).flatMap fun i => (List.range n).map fun k => (a, i, k)) (by
    intro q hq
    simp only [List.mem_flatMap, List.mem_map, List.mem_range] at hq
    obtain ⟨a, ha, i, hi, k, hk, rfl⟩ := hq
    exact ⟨ha, hi, hk⟩)
  refine ⟨m, h1, fun a i k ha hi hk p q => h2 (a, i, k) ?_ p q, h3⟩
  simp only [List.mem_flatMap, List.mem_map, List.mem_range]
  exact ⟨a, ha, i, hi, k, hk, rfl⟩
theorem mh_is (n : Nat) (E : Nat → Nat → Int) (cut : Nat) : isMH n E cut (mh n E cut) := by
  obtain ⟨m, hm⟩ := mh_all n E cut
  rw [mh_eq hm]; exact hm
theorem pl_ok {n : Nat} {D : Nat → Nat → Int} (h60 : okR n D 30) (hD : met n (fun i j => 2 * D i j)) : ∀ s, met n (plE n D true s) ∧ okR n (plE n D true s) 60
  | 0 => ⟨hD, fun i j hi hj => by have := h60 i j hi hj; show 0 ≤ 2 * D i j ∧ 2 * D i j ≤ 60; omega⟩
  | s + 1 => by
    have ih := pl_ok h60 hD s
    have h1 := mh_is n (plE n D true s) (2 * (s + 1))
    rw [plE_s]
    have e : plM n D true s = mh n (plE n D true s) (2 * (s + 1)) := rfl
    rw [e]
    have h2 := ih.1.cut h1
    exact ⟨h2, cutD_le (h1.nn ih.1) ih.2 h2⟩
theorem pl_no {n : Nat} {D : Nat → Nat → Int} : ∀ s, plE n D false s = fun i j => 2 * D i j
  | 0 => rfl
  | s + 1 => by
    rw [plE_s, pl_no s]
    funext i j
    unfold cutD plM
    simp
theorem scC_0 {p : Nat → Bool} : ∀ {m : Nat}, scC p m = 0 ↔ ∀ k, k < m → p k = false
  | 0 => by simp [scC]
  | m + 1 => by
    have ih := scC_0 (p := p) (m := m)
    have hr := scC_r p m
    rw [scC_s]
    constructor
    · intro h
      have hp : p m = false := by
        cases hq : p m with
        | false => rfl
        | true => rw [hq] at h; simp at h; omega
      rw [hp] at h
      intro k hk
      rcases Nat.lt_or_ge k m with h1 | h1
      · exact ih.mp (by simpa using h) k h1
      · rw [show k = m by omega]; exact hp
    · intro h
      rw [h m (by omega), ih.mpr (fun k hk => h k (by omega))]
      rfl
/-- law 0 unbroken: the three points' law -/
theorem law_met {n : Nat} {E : Nat → Nat → Int} {hi : Int} (hn : n ≤ 6) (hs : sym n E) (h0 : ∀ i, i < n → E i i = 0) (hr : okR n E hi) : scC (p0 n E) 512 = 0 ↔ met n E := by
  rw [scC_0]
  constructor
  · intro h
    refine ⟨hs, h0, fun i j k hi hj hk => ?_⟩
    have key : ∀ i j k : Nat, i < n → j < n → k < n → i < j → k ≠ i → k ≠ j → E i j ≤ E i k + E k j := by
      intro i j k hi hj hk hij hki hkj
      have := h (64 * i + 8 * k + j) (by omega)
      unfold p0 at this
      rw [show (64 * i + 8 * k + j) / 64 % 8 = i by omega, show (64 * i + 8 * k + j) / 8 % 8 = k by omega, show (64 * i + 8 * k + j) % 8 = j by omega] at this
      simp only [decide_eq_false_iff_not] at this
      exact Int.not_lt.mp (fun z => this ⟨hi, hk, hj, hij, hki, hkj, z⟩)
    have r1 := hr i k hi hk
    have r2 := hr k j hk hj
    by_cases e1 : i = j
    · subst e1; rw [h0 i hi]; omega
    · by_cases e2 : k = i
      · subst e2; rw [h0 k hk]; omega
      · by_cases e3 : k = j
        · subst e3; rw [h0 k hk]; omega
        · rcases Nat.lt_or_ge i j with h1 | h1
          · exact key i j k hi hj hk h1 e2 e3
          · have := key j i k hj hi hk (by omega) e3 e2
            rw [hs i j hi hj, hs i k hi hk, hs k j hk hj]; omega
  · intro h k _
    unfold p0
    simp only [decide_eq_false_iff_not]
    intro z
    have := h.2.2 (k / 64 % 8) (k % 8) (k / 8 % 8) z.1 z.2.2.1 z.2.1
    omega
