/-! both together: each call of the script answers the same on both, and keeps them alike -/
/-- no reference past the end (the same as fw_cb, ahead of it) -/
def fw_cbx (N : Nat) : fw_E → Prop
  | .inl o => ∀ v ∈ o.2, ∀ r, v = Value.ref r → r < N
  | .inr _ => True
def WM (w : fw_S) (n : Nat) (D : Nat → Nat → Int) (num : Nat → Int) : Prop := (∃ A B : Nat, mA w n D A B) ∧ (∃ f, fw_g w 20 (.inr (36, .inl f))) ∧ (∃ g, fw_g w 21 (.inr (64, .inl g))) ∧ fw_g w 22 (.inr (10, .inl num)) ∧ (∃ f, fw_g w 23 (.inr (5, .inl f))) ∧ (∃ g, fw_g w 24 (.inr (32, .inr g))) ∧ ∃ f, fw_g w 25 (.inr (6, .inl f))
def ex_k {w w' : fw_S} {X : Nat → Prop} {α : Type} {E : α → fw_E} {k : Nat} (h : ∃ f, fw_g w k (E f)) (hk : kp w w' X) (hX : ¬ X k) : ∃ f, fw_g w' k (E f) := by
  obtain ⟨f, hf⟩ := h
  exact ⟨f, hk.g hX hf⟩
theorem WM.keep {w w' : fw_S} {X : Nat → Prop} {n : Nat} {D : Nat → Nat → Int} {num : Nat → Int} (h : WM w n D num) (hk : kp w w' X) (hX : ∀ k, 18 ≤ k → ¬ X k) : WM w' n D num := by
  obtain ⟨⟨A, B, hA⟩, h20, h21, h22, h23, h24, h25⟩ := h
  exact ⟨⟨A, B, hA.kp hk (hX _ (by decide)) (hX _ (by decide))⟩, ex_k h20 hk (hX _ (by decide)), ex_k h21 hk (hX _ (by decide)), hk.g (hX _ (by decide)) h22, ex_k h23 hk (hX _ (by decide)), ex_k h24 hk (hX _ (by decide)), ex_k h25 hk (hX _ (by decide))⟩
def PM (M : fw_M) (a : List Value) (w : fw_S) (r : Value) (n : Nat) (D : Nat → Nat → Int) (num : Nat → Int) : Prop := ∃ w', fw_K 13 M (.ref 18 :: a) w (some r) w' ∧ WM w' n D num ∧ kp w w' (fun k => 18 ≤ k)
theorem PM.same {M : fw_M} {a : List Value} {w : fw_S} {r : Value} {n : Nat} {D : Nat → Nat → Int} {num : Nat → Int} (h : WM w n D num) (hK : fw_K 13 M (.ref 18 :: a) w (some r) w) : PM M a w r n D num := ⟨w, hK, h, kp.rf⟩
theorem PM.tab {M : fw_M} {a : List Value} {w w' : fw_S} {r : Value} {n n' : Nat} {D D' : Nat → Nat → Int} {num : Nat → Int} {A B : Nat} (h : WM w n D num) (hK : fw_K 13 M (.ref 18 :: a) w (some r) w') (hA : mA w' n' D' A B) (hk : kp w w' (fun k => k = 18 ∨ k = 19)) : PM M a w r n' D' num := by
  obtain ⟨_, h20, h21, h22, h23, h24, h25⟩ := h
  exact ⟨w', hK, ⟨⟨A, B, hA⟩, ex_k h20 hk (by decide), ex_k h21 hk (by decide), hk.g (by decide) h22, ex_k h23 hk (by decide), ex_k h24 hk (by decide), ex_k h25 hk (by decide)⟩, hk.mono (by intro k hk; omega)⟩
theorem PM.wo {M : fw_M} {a : List Value} {w w' : fw_S} {r : Value} {n : Nat} {D : Nat → Nat → Int} {num : Nat → Int} {A B : Nat} (h : WM w n D num) (hK : fw_K 13 M (.ref 18 :: a) w (some r) w') (hA : mw w' n D A B) (hk : kp w w' (fun k => k = 23 ∨ k = 24)) : PM M a w r n D num := by
  obtain ⟨_, h20, h21, h22, h23, h24, h25⟩ := h
  exact ⟨w', hK, ⟨⟨A, B, hA.1⟩, ex_k h20 hk (by decide), ex_k h21 hk (by decide), hk.g (by decide) h22, hA.2.1, hA.2.2, ex_k h25 hk (by decide)⟩, hk.mono (by intro k hk; omega)⟩
theorem PM.pe {M : fw_M} {a : List Value} {w w' : fw_S} {r : Value} {n : Nat} {D : Nat → Nat → Int} {num : Nat → Int} {A B : Nat} (h : WM w n D num) (hK : fw_K 13 M (.ref 18 :: a) w (some r) w') (hA : mp w' n D A B) (hk : kp w w' (fun k => k = 20 ∨ k = 21)) : PM M a w r n D num := by
  obtain ⟨_, h20, h21, h22, h23, h24, h25⟩ := h
  exact ⟨w', hK, ⟨⟨A, B, hA.1⟩, hA.2.1, hA.2.2, hk.g (by decide) h22, ex_k h23 hk (by decide), ex_k h24 hk (by decide), ex_k h25 hk (by decide)⟩, hk.mono (by intro k hk; omega)⟩
theorem PM.li {M : fw_M} {a : List Value} {w w' : fw_S} {r : Value} {n : Nat} {D : Nat → Nat → Int} {num f : Nat → Int} {A B : Nat} (h : WM w n D num) (hK : fw_K 13 M (.ref 18 :: a) w (some r) w') (hA : mB w' n D A B f) (hk : kp w w' (fun k => k = 18 ∨ k = 25)) : PM M a w r n D num := by
  obtain ⟨_, h20, h21, h22, h23, h24, h25⟩ := h
  exact ⟨w', hK, ⟨⟨A, B, hA.1⟩, ex_k h20 hk (by decide), ex_k h21 hk (by decide), hk.g (by decide) h22, ex_k h23 hk (by decide), ex_k h24 hk (by decide), ⟨f, hA.2⟩⟩, hk.mono (by intro k hk; omega)⟩
theorem wf_of {w : fw_S} {n : Nat} {D : Nat → Nat → Int} {num : Nat → Int} {n' : Nat} {D' : Nat → Nat → Int} {num' : Nat → Int} (hC : WC w n D num) (hM : WM w n' D' num') (h26 : w.1 = 26) : ∀ k, k < w.1 → fw_cbx w.1 (w.2 k) := by
  obtain ⟨a0, ⟨a1, ⟨f, a2, _⟩, _⟩, ⟨⟨fc, br, a3⟩, f4, a4⟩, ⟨a5, f6, a6⟩, ⟨a7, ⟨x, a8⟩, ⟨f9, a9⟩, ⟨fc2, br2, a10⟩, ⟨f11, a11⟩, ⟨f12, a12⟩⟩, ⟨⟨A, B, bo, ba, bb, a13⟩, f14, a14⟩, a15, a16, a17⟩ := hC
  obtain ⟨⟨A2, B2, a18, ⟨f19, a19, _⟩, _⟩, ⟨f20, a20⟩, ⟨f21, a21⟩, a22, ⟨f23, a23⟩, ⟨f24, a24⟩, ⟨f25, a25⟩⟩ := hM
  intro k hk
  rw [h26] at hk ⊢
  rcases (show k = 0 ∨ k = 1 ∨ k = 2 ∨ k = 3 ∨ k = 4 ∨ k = 5 ∨ k = 6 ∨ k = 7 ∨ k = 8 ∨ k = 9 ∨ k = 10 ∨ k = 11 ∨ k = 12 ∨ k = 13 ∨ k = 14 ∨ k = 15 ∨ k = 16 ∨ k = 17 ∨ k = 18 ∨ k = 19 ∨ k = 20 ∨ k = 21 ∨ k = 22 ∨ k = 23 ∨ k = 24 ∨ k = 25 by omega) with rfl | rfl | rfl | rfl | rfl | rfl | rfl | rfl | rfl | rfl | rfl | rfl | rfl | rfl | rfl | rfl | rfl | rfl | rfl | rfl | rfl | rfl | rfl | rfl | rfl | rfl
  · rw [a0.2]; simp [fw_cbx]
  · rw [a1.2]; simp [fw_cbx]
  · rw [a2.2]; exact trivial
  · rw [a3.2]; simp [fw_cbx]
  · rw [a4.2]; exact trivial
  · rw [a5.2]; simp [fw_cbx]
  · rw [a6.2]; exact trivial
  · rw [a7.2]; simp [fw_cbx]
  · rw [a8.2]; simp [fw_cbx]
  · rw [a9.2]; exact trivial
  · rw [a10.2]; simp [fw_cbx]
  · rw [a11.2]; exact trivial
  · rw [a12.2]; exact trivial
  · rw [a13.2]; simp [fw_cbx]
  · rw [a14.2]; exact trivial
  · rw [a15.2]; simp [fw_cbx]
  · rw [a16.2]; simp [fw_cbx]
  · rw [a17.2]; exact trivial
  · rw [a18.2]; simp [fw_cbx]
  · rw [a19.2]; exact trivial
  · rw [a20.2]; exact trivial
  · rw [a21.2]; exact trivial
  · rw [a22.2]; exact trivial
  · rw [a23.2]; exact trivial
  · rw [a24.2]; exact trivial
  · rw [a25.2]; exact trivial
def RW (w : fw_S) : Prop := ∃ (n : Nat) (D : Nat → Nat → Int) (num : Nat → Int), okT n D ∧ okN num ∧ WC w n D num ∧ WM w n D num
def TW (v : Value → Prop) (MA MB : fw_M) (a : List Value) (w : fw_S) : Prop := ∃ (r : Value) (w1 w2 : fw_S) (fs fs' : List Value), v r ∧ fw_K 13 MA (.ref 0 :: a) w (some r) w1 ∧ fw_K 13 MB (.ref 18 :: a) w1 (some r) w2 ∧ fw_g w 0 (.inl (7, fs)) ∧ fw_g w1 18 (.inl (8, fs')) ∧ RW w2 ∧ (w.1 = 26 → w2.1 = 26 ∧ (∀ k, k < w1.1 → fw_cbx w1.1 (w1.2 k)) ∧ ∀ k, k < w2.1 → fw_cbx w2.1 (w2.2 k))
def isI (r : Value) : Prop := ∃ x : Int32, r = .int x
def isL (r : Value) : Prop := ∃ x : Int64, r = .long x
theorem TW.mk {v : Value → Prop} {MA MB : fw_M} {a : List Value} {w : fw_S} {r : Value} {n n' : Nat} {D D' : Nat → Nat → Int} {num num' : Nat → Int} (hv : v r) (h0 : WC w n D num) (hc : PC MA a w r n' D' num') (hM : WM w n D num) (hm : ∀ w1, WM w1 n D num → PM MB a w1 r n' D' num') (hT : okT n' D') (hN : okN num') : TW v MA MB a w := by
  obtain ⟨w1, k1, c1, q1⟩ := hc
  have m1 := hM.keep q1 (fun k hk => Nat.not_lt.mpr hk)
  obtain ⟨w2, k2, c2, q2⟩ := hm w1 m1
  have h01 : fw_g w1 18 _ := m1.1.choose_spec.choose_spec.1
  have c3 := c1.keep q2 (fun k hk => Nat.not_le.mpr hk)
  exact ⟨r, w1, w2, _, _, hv, k1, k2, h0.1, h01, ⟨n', D', num', hT, hN, c3, c2⟩, fun h26 => ⟨k2.1.trans (k1.1.trans h26), wf_of c1 m1 (k1.1.trans h26), wf_of c3 c2 (k2.1.trans (k1.1.trans h26))⟩⟩
theorem okT.d1 (n : Nat) : okT n D1 := ⟨fun i j _ _ => by unfold D1; split <;> omega, fun i j _ _ => by
  unfold D1
  by_cases q : i = j
  · rw [if_pos q, if_pos q.symm]
  · rw [if_neg q, if_neg (fun z => q z.symm)], fun i _ => if_pos rfl⟩
theorem okT.set {n i j : Nat} {D : Nat → Nat → Int} {v : Int} (h : okT n D) (hij : i ≠ j) (hv : 0 ≤ v ∧ v ≤ 30) : okT n (setD D i j v) := by
  refine ⟨fun x y hx hy => ?_, fun x y hx hy => ?_, fun x hx => ?_⟩
  · unfold setD; split
    · exact hv
    · exact h.1 x y hx hy
  · unfold setD
    by_cases q : (x = i ∧ y = j) ∨ (x = j ∧ y = i)
    · rw [if_pos q, if_pos (by omega)]
    · rw [if_neg q, if_neg (by omega), h.2.1 x y hx hy]
  · unfold setD
    rw [if_neg (by omega)]; exact h.2.2 x hx
theorem okT.cut {n cut : Nat} {D : Nat → Nat → Int} {t : Int} (h : okT n D) (hb : bearsP n D cut t) : okT n (cutD D cut t) := by
  have hb := (bearsP_all h.2.1).mp hb
  refine ⟨fun x y hx hy => ?_, fun x y hx hy => ?_, fun x hx => ?_⟩
  · unfold cutD; split
    next q => exact hb x hx y hy q
    next q => exact h.1 x y hx hy
  · unfold cutD
    rw [pt_symm cut y x, h.2.1 x y hx hy]
  · unfold cutD
    rw [pt_self, if_neg (by simp)]; exact h.2.2 x hx
theorem okN.set {num : Nat → Int} {i : Nat} {v : Int} (h : okN num) (hv : -1000 ≤ v ∧ v ≤ 1000) : okN (fw_u num i v) := by
  intro k hk
  unfold fw_u
  split
  · exact hv
  · exact h k hk
theorem b_ex (p : Prop) : ∃ b : Bool, b = true ↔ p := by
  by_cases q : p
  · exact ⟨true, fun _ => q, fun _ => rfl⟩
  · exact ⟨false, fun y => (by cases y), fun y => absurd y q⟩
theorem z_ex (c : Prop) (a b : Int) : ∃ z : Int, (c → z = a) ∧ (¬ c → z = b) := by
  by_cases q : c
  · exact ⟨a, fun _ => rfl, fun y => absurd q y⟩
  · exact ⟨b, fun y => absurd y q, fun _ => rfl⟩
theorem iI_x (x : Int32) : ∃ z : Int, x = iI z ∧ -2147483648 ≤ z ∧ z ≤ 2147483647 := ⟨x.toInt, (iI_toInt x).symm, Int32.le_toInt x, by have := Int32.toInt_lt x; omega⟩
section TW
variable {w : fw_S}
theorem tw_count (h : RW w) : TW isI mX7_count mX8_count [] w := by
  obtain ⟨n, D, num, hT, hN, hC, hM⟩ := h
  exact TW.mk ⟨_, rfl⟩ hC (p_count hC) hM (fun w1 h1 => by obtain ⟨A, B, hA⟩ := h1.1; exact PM.same h1 (c_mcount hA)) hT hN
theorem tw_table (h : RW w) (x : Int32) : TW isI mX7_table mX8_table [.int x] w := by
  obtain ⟨n, D, num, hT, hN, hC, hM⟩ := h
  obtain ⟨z, rfl, hz⟩ := iI_x x
  have hp := p_table hC hz
  by_cases q : 2 ≤ z ∧ z ≤ 6
  · refine TW.mk ⟨_, rfl⟩ hC (hp.1 q) hM (fun w1 h1 => ?_) (okT.d1 _) hN
    obtain ⟨A, B, hA⟩ := h1.1
    obtain ⟨w2, k1, k2, k3⟩ := c_mtable (d := 13) (by omega) hA hz
    rw [if_pos q] at k1 k2
    exact PM.tab h1 k1 k2 k3
  · refine TW.mk ⟨_, rfl⟩ hC (hp.2 q) hM (fun w1 h1 => ?_) hT hN
    obtain ⟨A, B, hA⟩ := h1.1
    obtain ⟨w2, k1, k2, k3⟩ := c_mtable (d := 13) (by omega) hA hz
    rw [if_neg q] at k1 k2
    exact PM.tab h1 k1 k2 k3
theorem tw_set (h : RW w) (x y v : Int32) : TW isI mX7_set mX8_set [.int x, .int y, .int v] w := by
  obtain ⟨n, D, num, hT, hN, hC, hM⟩ := h
  obtain ⟨i, rfl, hi⟩ := iI_x x
  obtain ⟨j, rfl, hj⟩ := iI_x y
  obtain ⟨v, rfl, hv⟩ := iI_x v
  have hp := p_set hC hi hj hv
  by_cases q : isPr n i j ∧ i ≠ j ∧ 0 ≤ v ∧ v ≤ 30
  · refine TW.mk ⟨_, rfl⟩ hC (hp.1 q) hM (fun w1 h1 => ?_) (hT.set (by have := q.1; have := q.2.1; unfold isPr at *; omega) q.2.2) hN
    obtain ⟨A, B, hA⟩ := h1.1
    obtain ⟨w2, k1, k2, k3⟩ := c_mset (d := 13) (by omega) hA hi hj hv
    exact PM.tab h1 (k1 q).1 (k1 q).2 (k3.mono (by intro k hk; omega))
  · refine TW.mk ⟨_, rfl⟩ hC (hp.2 q) hM (fun w1 h1 => ?_) hT hN
    obtain ⟨A, B, hA⟩ := h1.1
    obtain ⟨w2, k1, k2, k3⟩ := c_mset (d := 13) (by omega) hA hi hj hv
    exact PM.tab h1 (k2 q).1 (k2 q).2 (k3.mono (by intro k hk; omega))
theorem tw_at (h : RW w) (x y : Int32) : TW isI mX7_at mX8_at [.int x, .int y] w := by
  obtain ⟨n, D, num, hT, hN, hC, hM⟩ := h
  obtain ⟨i, rfl, hi⟩ := iI_x x
  obtain ⟨j, rfl, hj⟩ := iI_x y
  obtain ⟨z, hz⟩ := z_ex (isPr n i j) (D i.toNat j.toNat) (-1)
  exact TW.mk ⟨_, rfl⟩ hC (p_at hC hi hj z hz) hM (fun w1 h1 => by obtain ⟨A, B, hA⟩ := h1.1; exact PM.same h1 (c_mat (by omega) hA hi hj z hz)) hT hN
theorem tw_law (h : RW w) (x : Int32) : TW isI mX7_law mX8_law [.int x] w := by
  obtain ⟨n, D, num, hT, hN, hC, hM⟩ := h
  obtain ⟨z, rfl, hz⟩ := iI_x x
  exact TW.mk ⟨_, rfl⟩ hC (p_law hC hT hz) hM (fun w1 h1 => by obtain ⟨A, B, hA⟩ := h1.1; exact PM.same h1 (c_mlaw (by omega) hA hT.1 hz)) hT hN
theorem tw_breaks (h : RW w) (x : Int32) : TW isI mX7_breaks mX8_breaks [.int x] w := by
  obtain ⟨n, D, num, hT, hN, hC, hM⟩ := h
  obtain ⟨z, rfl, hz⟩ := iI_x x
  exact TW.mk ⟨_, rfl⟩ hC (p_breaks hC hT hz) hM (fun w1 h1 => by obtain ⟨A, B, hA⟩ := h1.1; exact PM.same h1 (c_mbreaks (by omega) hA hT.1 hz)) hT hN
theorem tw_flat (h : RW w) : TW isI mX7_flat mX8_flat [] w := by
  obtain ⟨n, D, num, hT, hN, hC, hM⟩ := h
  obtain ⟨b, hb⟩ := b_ex (∀ s, 1 ≤ s → s < 2 ^ (n - 1) → ¬ lI (dtS D s) < lI 0)
  refine TW.mk ⟨_, rfl⟩ hC (p_flat hC hT b hb) hM (fun w1 h1 => ?_) hT hN
  obtain ⟨A, B, hA⟩ := h1.1
  obtain ⟨w2, k1, k2, k3⟩ := c_mflat (d := 13) (by omega) (show mw w1 n D A B from ⟨hA, h1.2.2.2.2.1, h1.2.2.2.2.2.1⟩) hT.1 b hb
  exact PM.wo h1 k1 k2 k3
theorem tw_ways (h : RW w) : TW isI mX7_ways mX8_ways [] w := by
  obtain ⟨n, D, num, hT, hN, hC, hM⟩ := h
  refine TW.mk ⟨_, rfl⟩ hC (p_ways hC hT) hM (fun w1 h1 => ?_) hT hN
  obtain ⟨A, B, hA⟩ := h1.1
  obtain ⟨w2, k1, k2, k3⟩ := c_mways (d := 13) (by omega) (show mw w1 n D A B from ⟨hA, h1.2.2.2.2.1, h1.2.2.2.2.2.1⟩) hT.1
  exact PM.wo h1 k1 k2 k3
theorem tw_bulk (h : RW w) (x : Int32) : TW isL mX7_bulk mX8_bulk [.int x] w := by
  obtain ⟨n, D, num, hT, hN, hC, hM⟩ := h
  obtain ⟨z, rfl, hz⟩ := iI_x x
  refine TW.mk ⟨_, rfl⟩ hC (p_bulk hC hT hz) hM (fun w1 h1 => ?_) hT hN
  obtain ⟨A, B, hA⟩ := h1.1
  obtain ⟨w2, k1, k2, k3⟩ := c_mbulk (d := 13) (by omega) (show mw w1 n D A B from ⟨hA, h1.2.2.2.2.1, h1.2.2.2.2.2.1⟩) hT.1 hz
  exact PM.wo h1 k1 k2 k3
theorem tw_add (h : RW w) (x y : Int32) : TW isI mX7_add mX8_add [.int x, .int y] w := by
  obtain ⟨n, D, num, hT, hN, hC, hM⟩ := h
  obtain ⟨cut, rfl, hc⟩ := iI_x x
  obtain ⟨t, rfl, ht⟩ := iI_x y
  have hp := p_add hC hT hc ht
  by_cases q : isCut n cut = true ∧ -30 ≤ t ∧ t ≤ 30
  · by_cases q2 : bearsP n D cut.toNat t
    · refine TW.mk ⟨_, rfl⟩ hC (hp.2.2 q q2) hM (fun w1 h1 => ?_) (hT.cut q2) hN
      obtain ⟨A, B, hA⟩ := h1.1
      obtain ⟨w2, k1, k2, k3⟩ := (c_madd (d := 13) (by omega) hA hT.1 hT.2.1 hc ht).2.2 q q2
      exact PM.tab h1 k1 k2 (k3.mono (by intro k hk; omega))
    · refine TW.mk ⟨_, rfl⟩ hC (hp.2.1 q q2) hM (fun w1 h1 => ?_) hT hN
      obtain ⟨A, B, hA⟩ := h1.1
      exact PM.same h1 ((c_madd (d := 13) (by omega) hA hT.1 hT.2.1 hc ht).2.1 q q2)
  · refine TW.mk ⟨_, rfl⟩ hC (hp.1 q) hM (fun w1 h1 => ?_) hT hN
    obtain ⟨A, B, hA⟩ := h1.1
    exact PM.same h1 ((c_madd (d := 13) (by omega) hA hT.1 hT.2.1 hc ht).1 q)
theorem tw_peel (h : RW w) (x : Int32) : TW isI mX7_peel mX8_peel [.int x] w := by
  obtain ⟨n, D, num, hT, hN, hC, hM⟩ := h
  obtain ⟨cut, rfl, hc⟩ := iI_x x
  have hn := hC.2.1.2.2
  obtain ⟨z, hz⟩ : ∃ z : Int, (∀ s, s < 2 ^ (n - 1) - 1 → cut = ((2 * (s + 1) : Nat) : Int) → z = plM n D (lawB n D) s) ∧ (isCut n cut = false → z = -1) := by
    cases q : isCut n cut with
    | true =>
      obtain ⟨s, e, hs⟩ := cut_s hn q
      exact ⟨plM n D (lawB n D) s, fun s' _ e' => by rw [show s' = s by omega], fun y => by cases y⟩
    | false =>
      refine ⟨-1, fun s hs e => ?_, fun _ => rfl⟩
      exfalso
      have h2 : 2 * 2 ^ (n - 1) = 2 ^ n := (p2_half hn).1
      rw [isCut, decide_eq_false_iff_not] at q
      exact q ⟨by omega, by omega, by omega⟩
  refine TW.mk ⟨_, rfl⟩ hC (p_peel hC hT hc z hz) hM (fun w1 h1 => ?_) hT hN
  obtain ⟨A, B, hA⟩ := h1.1
  obtain ⟨w2, k1, k2, k3⟩ := c_mpeel (d := 13) (by omega) (show mp w1 n D A B from ⟨hA, h1.2.1, h1.2.2.1⟩) hT hc z hz
  exact PM.pe h1 k1 k2 k3
theorem tw_left (h : RW w) (x y : Int32) : TW isI mX7_left mX8_left [.int x, .int y] w := by
  obtain ⟨n, D, num, hT, hN, hC, hM⟩ := h
  obtain ⟨i, rfl, hi⟩ := iI_x x
  obtain ⟨j, rfl, hj⟩ := iI_x y
  obtain ⟨z, hz⟩ := z_ex (isPr n i j) (plE n D (lawB n D) (2 ^ (n - 1) - 1) i.toNat j.toNat) (-1)
  refine TW.mk ⟨_, rfl⟩ hC (p_left hC hT hi hj z hz) hM (fun w1 h1 => ?_) hT hN
  obtain ⟨A, B, hA⟩ := h1.1
  obtain ⟨w2, k1, k2, k3⟩ := c_mleft (d := 13) (by omega) (show mp w1 n D A B from ⟨hA, h1.2.1, h1.2.2.1⟩) hT hi hj z hz
  exact PM.pe h1 k1 k2 k3
theorem tw_line (h : RW w) (x y v : Int32) : TW isI mX7_line mX8_line [.int x, .int y, .int v] w := by
  obtain ⟨n, D, num, hT, hN, hC, hM⟩ := h
  obtain ⟨o, rfl, ho⟩ := iI_x x
  obtain ⟨i, rfl, hi⟩ := iI_x y
  obtain ⟨what, rfl, hw⟩ := iI_x v
  obtain ⟨z, hz⟩ := z_ex (lineC n o i what) (if what = 0 then PLs D o.toNat n i.toNat else (stP n D o.toNat what : Int)) (-1)
  refine TW.mk ⟨_, rfl⟩ hC (p_line hC hT ho hi hw z hz) hM (fun w1 h1 => ?_) hT hN
  obtain ⟨A, B, hA⟩ := h1.1
  obtain ⟨f, h25⟩ := h1.2.2.2.2.2.2
  obtain ⟨w2, A', B', f', k1, k2, k3⟩ := c_mline (d := 13) (by omega) (show mB w1 n D A B f from ⟨hA, h25⟩) hT ho hi hw z hz
  exact PM.li h1 k1 k2 k3
theorem tw_best (h : RW w) (x : Int32) : TW isI mX7_best mX8_best [.int x] w := by
  obtain ⟨n, D, num, hT, hN, hC, hM⟩ := h
  obtain ⟨what, rfl, hw⟩ := iI_x x
  refine TW.mk ⟨_, rfl⟩ hC (p_best hC hT hw) hM (fun w1 h1 => ?_) hT hN
  obtain ⟨A, B, hA⟩ := h1.1
  obtain ⟨f, h25⟩ := h1.2.2.2.2.2.2
  obtain ⟨w2, A', B', f', k1, k2, k3⟩ := c_mbest (d := 13) (by omega) (show mB w1 n D A B f from ⟨hA, h25⟩) hT hw
  exact PM.li h1 k1 k2 k3
theorem tw_centres (h : RW w) (x y v : Int32) : TW isI mX7_centres mX8_centres [.int x, .int y, .int v] w := by
  obtain ⟨n, D, num, hT, hN, hC, hM⟩ := h
  obtain ⟨k, rfl, hk⟩ := iI_x x
  obtain ⟨what, rfl, hw⟩ := iI_x y
  obtain ⟨part, rfl, hp⟩ := iI_x v
  obtain ⟨z, hz⟩ := z_ex (cenC n k what part) (if part = 0 then ((cenS 99 n D k.toNat (decide (what = 1)) (2 ^ n)).1 : Int) else (cenS 99 n D k.toNat (decide (what = 1)) (2 ^ n)).2) (-1)
  exact TW.mk ⟨_, rfl⟩ hC (p_centres hC hT hk hw hp z hz) hM (fun w1 h1 => by obtain ⟨A, B, hA⟩ := h1.1; exact PM.same h1 (c_mcentres (by omega) hA hT.1 hk hw hp z hz)) hT hN
theorem tw_number (h : RW w) (x y : Int32) : TW isI mX7_number mX8_number [.int x, .int y] w := by
  obtain ⟨n, D, num, hT, hN, hC, hM⟩ := h
  obtain ⟨i, rfl, hi⟩ := iI_x x
  obtain ⟨v, rfl, hv⟩ := iI_x y
  have hp := p_number hC hi hv
  by_cases q : numC i v
  · refine TW.mk ⟨_, rfl⟩ hC (hp.1 q) hM (fun w1 h1 => ?_) hT (hN.set q.2)
    obtain ⟨⟨A, B, hA⟩, h20, h21, h22, h23, h24, h25⟩ := h1
    have k1 := (c_mnumber (d := 13) (by omega) hA h22 hi hv).1 q
    have hk := kp.up w1 22 (.inr (10, .inl (fw_u num i.toNat v)))
    exact ⟨_, k1, ⟨⟨A, B, hA.kp hk (by decide) (by decide)⟩, ex_k h20 hk (by decide), ex_k h21 hk (by decide), h22.up _, ex_k h23 hk (by decide), ex_k h24 hk (by decide), ex_k h25 hk (by decide)⟩, hk.mono (by intro k hk; omega)⟩
  · refine TW.mk ⟨_, rfl⟩ hC (hp.2 q) hM (fun w1 h1 => ?_) hT hN
    obtain ⟨A, B, hA⟩ := h1.1
    exact PM.same h1 ((c_mnumber (d := 13) (by omega) hA h1.2.2.2.1 hi hv).2 q)
theorem tw_signs (h : RW w) (x y : Int32) : TW isI mX7_signs mX8_signs [.int x, .int y] w := by
  obtain ⟨n, D, num, hT, hN, hC, hM⟩ := h
  obtain ⟨c, rfl, hc⟩ := iI_x x
  obtain ⟨t, rfl, ht⟩ := iI_x y
  exact TW.mk ⟨_, rfl⟩ hC (p_signs hC hN hc ht) hM (fun w1 h1 => by obtain ⟨A, B, hA⟩ := h1.1; exact PM.same h1 (c_msigns (by omega) hA h1.2.2.2.1 hN hc ht)) hT hN
theorem tw_least (h : RW w) (x y : Int32) : TW isI mX7_least mX8_least [.int x, .int y] w := by
  obtain ⟨n, D, num, hT, hN, hC, hM⟩ := h
  obtain ⟨c, rfl, hc⟩ := iI_x x
  obtain ⟨t, rfl, ht⟩ := iI_x y
  exact TW.mk ⟨_, rfl⟩ hC (p_least hC hN hc ht) hM (fun w1 h1 => by obtain ⟨A, B, hA⟩ := h1.1; exact PM.same h1 (c_mleast (by omega) hA h1.2.2.2.1 hN hc ht)) hT hN
end TW
