/-! Peeling: at the cells 7 (itself), 1, 2 (the table), 8, 9 (the rest), 10, 11 (its laws), 12 (taken) -/
def pw (w : fw_S) (n : Nat) (D : Nat → Nat → Int) : Prop := fw_g w 7 (.inl (4, [.ref 1, .ref 8, .ref 10, .ref 12])) ∧ tb w 1 2 n D ∧ (∃ x : Int32, fw_g w 8 (.inl (6, [.ref 9, .int x]))) ∧ (∃ f, fw_g w 9 (.inr (36, .inl f))) ∧ (∃ fc br : Int, fw_g w 10 (.inl (1, [.ref 8, .ref 11, .int (iI fc), .int (iI br)]))) ∧ (∃ f, fw_g w 11 (.inr (6, .inl f))) ∧ (∃ f, fw_g w 12 (.inr (64, .inl f)))
theorem c_spareWay {d n i b k : Nat} {E : Nat → Nat → Int} {w : fw_S} (hd : 1 ≤ d) (h7 : fw_g w 7 (.inl (4, [.ref 1, .ref 8, .ref 10, .ref 12]))) (h : tb w 8 9 n E) (hi : i < n) (hb : b < n) (hk : k < n) : fw_K d mX4_spareWay [.ref 7, .int (iI i), .int (iI b), .int (iI k)] w (some (.int (iI (E i b + E b k - E i k)))) w := by
  have h8 := h.1
  refine fw_K.of (by decide) (Nat.le_of_ble_eq_true rfl) (by simp [Value.category]) (rfl) ?_
  show fw_R _ _ 0 [some (.ref 7), some (.int (iI i)), some (.int (iI b)), some (.int (iI k))] [] _ _ _
  refine fr_aload_n dX4_spareWay_0 rfl ?_
  refine fr_get fX4_spareWay_1 h7 rfl ?_
  refine fr_iload_n dX4_spareWay_4 rfl ?_
  refine fr_iload_n dX4_spareWay_5 rfl ?_
  refine fr_callV kX4_spareWay_6 (c_between (d := 0) h hi hb) (by omega) h8 rfl rfl rfl ?_
  dsimp only [List.set, Option.toList, List.cons_append, List.nil_append]
  refine fr_aload_n dX4_spareWay_9 rfl ?_
  refine fr_get fX4_spareWay_10 h7 rfl ?_
  refine fr_iload_n dX4_spareWay_13 rfl ?_
  refine fr_iload_n dX4_spareWay_14 rfl ?_
  refine fr_callV kX4_spareWay_15 (c_between (d := 0) h hb hk) (by omega) h8 rfl rfl rfl ?_
  dsimp only [List.set, Option.toList, List.cons_append, List.nil_append]
  refine fr_iadd dX4_spareWay_18 ?_
  refine fr_aload_n dX4_spareWay_19 rfl ?_
  refine fr_get fX4_spareWay_20 h7 rfl ?_
  refine fr_iload_n dX4_spareWay_23 rfl ?_
  refine fr_iload_n dX4_spareWay_24 rfl ?_
  refine fr_callV kX4_spareWay_25 (c_between (d := 0) h hi hk) (by omega) h8 rfl rfl rfl ?_
  dsimp only [List.set, Option.toList, List.cons_append, List.nil_append]
  refine fr_isub dX4_spareWay_28 ?_
  exact fr_iret dX4_spareWay_29 rfl (rfl) (rfl)
/-- the least so far, of the triples gone through -/
def mhI (n : Nat) (E : Nat → Nat → Int) (cut : Nat) (P : Nat → Nat → Nat → Prop) (m : Int) : Prop := 0 ≤ m ∧ m ≤ 60 ∧ (∀ a i k, a < n → i < n → k < n → P a i k → pt cut a i = true → pt cut a k = true → m ≤ (E i a + E a k - E i k).tdiv 2) ∧ (m = 60 ∨ ∃ a i k, a < n ∧ i < n ∧ k < n ∧ pt cut a i = true ∧ pt cut a k = true ∧ m = (E i a + E a k - E i k).tdiv 2)
theorem mhI.mono {n cut : Nat} {E : Nat → Nat → Int} {P P' : Nat → Nat → Nat → Prop} {m : Int} (h : mhI n E cut P m) (hP : ∀ a i k, a < n → i < n → k < n → P' a i k → P a i k) : mhI n E cut P' m := ⟨h.1, h.2.1, fun a i k ha hi hk p q r => h.2.2.1 a i k ha hi hk (hP a i k ha hi hk p) q r, h.2.2.2⟩
theorem c_mostHalves {d n cut : Nat} {E : Nat → Nat → Int} {w : fw_S} (hd : 2 ≤ d) (h7 : fw_g w 7 (.inl (4, [.ref 1, .ref 8, .ref 10, .ref 12]))) (h : tb w 8 9 n E) (hE : met n E) (hr : okR n E 60) (hc : cut < 64) : fw_K d mX4_mostHalves [.ref 7, .int (iI cut)] w (some (.int (iI (mh n E cut)))) w := by
  have h8 := h.1
  have hn := h.2.2
  have outer := lpE (M := mX4_mostHalves) (d := d) (pcH := 5) n (fun a (m : Int) => [some (.ref 7), some (.int (iI cut)), some (.int (iI m)), some (.int (iI a)), none, none]) (fun a m v => v = w ∧ mhI n E cut (fun a' i k => a' < a ∧ i ≤ k) m) (by
    intro a m v ha ⟨hv, hI⟩
    have mid := lpE (M := mX4_mostHalves) (d := d) (pcH := 19) n (fun i (m : Int) => [some (.ref 7), some (.int (iI cut)), some (.int (iI m)), some (.int (iI a)), some (.int (iI i)), none]) (fun i m v => v = w ∧ mhI n E cut (fun a' i' k => (a' < a ∨ a' = a ∧ i' < i) ∧ i' ≤ k) m) (by
      intro i m v hi ⟨hv, hI⟩
      have inner := lpE (M := mX4_mostHalves) (d := d) (pcH := 35) n (fun k (m : Int) => [some (.ref 7), some (.int (iI cut)), some (.int (iI m)), some (.int (iI a)), some (.int (iI i)), some (.int (iI k))]) (fun k m v => v = w ∧ mhI n E cut (fun a' i' k' => (a' < a ∨ a' = a ∧ (i' < i ∨ i' = i ∧ k' < k)) ∧ i' ≤ k') m) (by
        intro k m v hk ⟨hv, hI⟩
        subst hv
        have r1 := b2_r (pt cut a i)
        have r2 := b2_r (pt cut a k)
        have e1 := hr i a hi ha
        have e2 := hr a k ha hk
        have e3 := hr i k hi hk
        have tri := hE.2.2 i k a hi hk ha
        have t2 := td2 (show 0 ≤ E i a + E a k - E i k by omega)
        have m0 := hI.1
        have m60 := hI.2.1
        by_cases hp : pt cut a i = true ∧ pt cut a k = true
        · refine ⟨min m ((E i a + E a k - E i k).tdiv 2), v, ⟨rfl, by omega, by omega, ?_, ?_⟩, ?_⟩
          · intro a' i' k' ha' hi' hk' hP p q
            by_cases he : a' = a ∧ i' = i ∧ k' = k
            · obtain ⟨rfl, rfl, rfl⟩ := he; exact Int.min_le_right _ _
            · exact Int.le_trans (Int.min_le_left _ _) (hI.2.2.1 a' i' k' ha' hi' hk' (by omega) p q)
          · rcases Int.le_total m ((E i a + E a k - E i k).tdiv 2) with hle | hle
            · rw [Int.min_eq_left hle]; exact hI.2.2.2
            · rw [Int.min_eq_right hle]; exact Or.inr ⟨a, i, k, ha, hi, hk, hp.1, hp.2, rfl⟩
          · intro r w' kk
            refine fr_iload dX4_mostHalves_35 rfl ?_
            refine fr_aload_n dX4_mostHalves_37 rfl ?_
            refine fr_get fX4_mostHalves_38 h7 rfl ?_
            refine fr_get fX4_mostHalves_41 h8 rfl ?_
            refine fr_icmp_ge (tgt := 89) dX4_mostHalves_44 (by decide) (by omega) (by omega) (fun c => ?_) (fun c => ?_)
            · omega
            refine fr_iload_n dX4_mostHalves_47 rfl ?_
            refine fr_iload_n dX4_mostHalves_48 rfl ?_
            refine fr_iload dX4_mostHalves_49 rfl ?_
            refine fr_callS kX4_mostHalves_51 (c_parts 1 cut a i v (by omega) (by omega) (by omega) (by omega)) (by omega) rfl rfl rfl ?_
            dsimp only [List.set, Option.toList, List.cons_append, List.nil_append]
            refine fr_if_eq (tgt := 83) dX4_mostHalves_54 (by decide) (by omega) (fun c => ?_) (fun c => ?_)
            · rw [hp.1] at c; exact absurd c (by decide)
            refine fr_iload_n dX4_mostHalves_57 rfl ?_
            refine fr_iload_n dX4_mostHalves_58 rfl ?_
            refine fr_iload dX4_mostHalves_59 rfl ?_
            refine fr_callS kX4_mostHalves_61 (c_parts 1 cut a k v (by omega) (by omega) (by omega) (by omega)) (by omega) rfl rfl rfl ?_
            dsimp only [List.set, Option.toList, List.cons_append, List.nil_append]
            refine fr_if_eq (tgt := 83) dX4_mostHalves_64 (by decide) (by omega) (fun c => ?_) (fun c => ?_)
            · rw [hp.2] at c; exact absurd c (by decide)
            refine fr_iload_n dX4_mostHalves_67 rfl ?_
            refine fr_aload_n dX4_mostHalves_68 rfl ?_
            refine fr_iload dX4_mostHalves_69 rfl ?_
            refine fr_iload_n dX4_mostHalves_71 rfl ?_
            refine fr_iload dX4_mostHalves_72 rfl ?_
            refine fr_callV kX4_mostHalves_74 (c_spareWay (d := 1) (by omega) h7 h hi ha hk) (by omega) h7 rfl rfl rfl ?_
            dsimp only [List.set, Option.toList, List.cons_append, List.nil_append]
            refine fr_iconst dX4_mostHalves_77 ?_
            refine fr_idiv dX4_mostHalves_78 (by omega) (by omega) (by omega) ?_
            refine fr_min kX4_mostHalves_79 (by omega) (by omega) rfl (by omega) ?_
            refine fr_istore_n dX4_mostHalves_82 rfl (by decide) rfl rfl ?_
            dsimp only [List.set, Option.toList, List.cons_append, List.nil_append]
            refine fr_iinc dX4_mostHalves_83 rfl (by decide) rfl rfl ?_
            dsimp only [List.set, Option.toList, List.cons_append, List.nil_append]
            refine fr_goto (tgt := 35) dX4_mostHalves_86 (by decide) ?_
            exact kk
        · refine ⟨m, v, ⟨rfl, hI.1, hI.2.1, ?_, hI.2.2.2⟩, ?_⟩
          · intro a' i' k' ha' hi' hk' hP p q
            by_cases he : a' = a ∧ i' = i ∧ k' = k
            · obtain ⟨rfl, rfl, rfl⟩ := he; exact absurd ⟨p, q⟩ hp
            · exact hI.2.2.1 a' i' k' ha' hi' hk' (by omega) p q
          · intro r w' kk
            have done : fw_R mX4_mostHalves d 83 [some (.ref 7), some (.int (iI cut)), some (.int (iI m)), some (.int (iI a)), some (.int (iI i)), some (.int (iI k))] [] v r w' := by
              refine fr_iinc dX4_mostHalves_83 rfl (by decide) rfl rfl ?_
              dsimp only [List.set, Option.toList, List.cons_append, List.nil_append]
              refine fr_goto (tgt := 35) dX4_mostHalves_86 (by decide) ?_
              exact kk
            refine fr_iload dX4_mostHalves_35 rfl ?_
            refine fr_aload_n dX4_mostHalves_37 rfl ?_
            refine fr_get fX4_mostHalves_38 h7 rfl ?_
            refine fr_get fX4_mostHalves_41 h8 rfl ?_
            refine fr_icmp_ge (tgt := 89) dX4_mostHalves_44 (by decide) (by omega) (by omega) (fun c => ?_) (fun c => ?_)
            · omega
            refine fr_iload_n dX4_mostHalves_47 rfl ?_
            refine fr_iload_n dX4_mostHalves_48 rfl ?_
            refine fr_iload dX4_mostHalves_49 rfl ?_
            refine fr_callS kX4_mostHalves_51 (c_parts 1 cut a i v (by omega) (by omega) (by omega) (by omega)) (by omega) rfl rfl rfl ?_
            dsimp only [List.set, Option.toList, List.cons_append, List.nil_append]
            refine fr_if_eq (tgt := 83) dX4_mostHalves_54 (by decide) (by omega) (fun c1 => ?_) (fun c1 => ?_)
            · exact done
            refine fr_iload_n dX4_mostHalves_57 rfl ?_
            refine fr_iload_n dX4_mostHalves_58 rfl ?_
            refine fr_iload dX4_mostHalves_59 rfl ?_
            refine fr_callS kX4_mostHalves_61 (c_parts 1 cut a k v (by omega) (by omega) (by omega) (by omega)) (by omega) rfl rfl rfl ?_
            dsimp only [List.set, Option.toList, List.cons_append, List.nil_append]
            refine fr_if_eq (tgt := 83) dX4_mostHalves_64 (by decide) (by omega) (fun c2 => ?_) (fun c2 => ?_)
            · exact done
            · exact absurd ⟨b2_n0.mp c1, b2_n0.mp c2⟩ hp)
      subst hv
      obtain ⟨mE, wE, ⟨e0, eI⟩, hr⟩ := inner i m v (by omega) ⟨rfl, hI.mono (fun a' i' k' _ _ _ p => by omega)⟩
      subst e0
      refine ⟨mE, wE, ⟨rfl, eI.mono (fun a' i' k' _ _ _ p => by omega)⟩, ?_⟩
      intro r w' kk
      refine fr_iload dX4_mostHalves_19 rfl ?_
      refine fr_aload_n dX4_mostHalves_21 rfl ?_
      refine fr_get fX4_mostHalves_22 h7 rfl ?_
      refine fr_get fX4_mostHalves_25 h8 rfl ?_
      refine fr_icmp_ge (tgt := 95) dX4_mostHalves_28 (by decide) (by omega) (by omega) (fun c => ?_) (fun c => ?_)
      · omega
      refine fr_iload dX4_mostHalves_31 rfl ?_
      refine fr_istore dX4_mostHalves_33 (by decide) rfl rfl ?_
      dsimp only [List.set, Option.toList, List.cons_append, List.nil_append]
      refine hr r w' ?_
      refine fr_iload dX4_mostHalves_35 rfl ?_
      refine fr_aload_n dX4_mostHalves_37 rfl ?_
      refine fr_get fX4_mostHalves_38 h7 rfl ?_
      refine fr_get fX4_mostHalves_41 h8 rfl ?_
      refine fr_icmp_ge (tgt := 89) dX4_mostHalves_44 (by decide) (by omega) (by omega) (fun c => ?_) (fun c => ?_)
      · refine fr_iinc dX4_mostHalves_89 rfl (by decide) rfl rfl ?_
        dsimp only [List.set, Option.toList, List.cons_append, List.nil_append]
        refine fr_goto (tgt := 19) dX4_mostHalves_92 (by decide) ?_
        exact kk.wk (by simp [fw_le])
      · omega)
    subst hv
    obtain ⟨mE, wE, ⟨e0, eI⟩, hr⟩ := mid 0 m v (by omega) ⟨rfl, hI.mono (fun a' i' k' _ _ _ p => by omega)⟩
    subst e0
    refine ⟨mE, wE, ⟨rfl, eI.mono (fun a' i' k' _ _ _ p => by omega)⟩, ?_⟩
    intro r w' kk
    refine fr_iload_n dX4_mostHalves_5 rfl ?_
    refine fr_aload_n dX4_mostHalves_6 rfl ?_
    refine fr_get fX4_mostHalves_7 h7 rfl ?_
    refine fr_get fX4_mostHalves_10 h8 rfl ?_
    refine fr_icmp_ge (tgt := 101) dX4_mostHalves_13 (by decide) (by omega) (by omega) (fun c => ?_) (fun c => ?_)
    · omega
    refine fr_iconst dX4_mostHalves_16 ?_
    refine fr_istore dX4_mostHalves_17 (by decide) rfl rfl ?_
    dsimp only [List.set, Option.toList, List.cons_append, List.nil_append]
    refine hr r w' ?_
    refine fr_iload dX4_mostHalves_19 rfl ?_
    refine fr_aload_n dX4_mostHalves_21 rfl ?_
    refine fr_get fX4_mostHalves_22 h7 rfl ?_
    refine fr_get fX4_mostHalves_25 h8 rfl ?_
    refine fr_icmp_ge (tgt := 95) dX4_mostHalves_28 (by decide) (by omega) (by omega) (fun c => ?_) (fun c => ?_)
    · refine fr_iinc dX4_mostHalves_95 rfl (by decide) rfl rfl ?_
      dsimp only [List.set, Option.toList, List.cons_append, List.nil_append]
      refine fr_goto (tgt := 5) dX4_mostHalves_98 (by decide) ?_
      exact kk.wk (by simp [fw_le])
    · omega)
  obtain ⟨mE, wE, ⟨e0, eI⟩, hr⟩ := outer 0 60 w (by omega) ⟨rfl, by omega, by omega, fun a i k _ _ _ p => absurd p.1 (Nat.not_lt_zero a), Or.inl rfl⟩
  subst e0
  have hm : mh n E cut = mE := mh_eq ⟨eI.2.1, fun a i k ha hi hk p q => by
    rcases Nat.le_total i k with hik | hik
    · exact eI.2.2.1 a i k ha hi hk ⟨ha, hik⟩ p q
    · have := eI.2.2.1 a k i ha hk hi ⟨ha, hik⟩ q p
      rw [hE.1 k a hk ha, hE.1 a i ha hi, hE.1 k i hk hi] at this
      rw [show E i a + E a k - E i k = E a k + E i a - E i k by omega]
      exact this, eI.2.2.2⟩
  rw [hm]
  refine fw_K.of (by decide) (Nat.le_of_ble_eq_true rfl) (by simp [Value.category]) (rfl) ?_
  show fw_R _ _ 0 [some (.ref 7), some (.int (iI cut)), none, none, none, none] [] _ _ _
  refine fr_bipush dX4_mostHalves_0 (by decide) ?_
  refine fr_istore_n dX4_mostHalves_2 rfl (by decide) rfl rfl ?_
  dsimp only [List.set, Option.toList, List.cons_append, List.nil_append]
  refine fr_iconst dX4_mostHalves_3 ?_
  refine fr_istore_n dX4_mostHalves_4 rfl (by decide) rfl rfl ?_
  dsimp only [List.set, Option.toList, List.cons_append, List.nil_append]
  refine hr _ _ ?_
  refine fr_iload_n dX4_mostHalves_5 rfl ?_
  refine fr_aload_n dX4_mostHalves_6 rfl ?_
  refine fr_get fX4_mostHalves_7 h7 rfl ?_
  refine fr_get fX4_mostHalves_10 h8 rfl ?_
  refine fr_icmp_ge (tgt := 101) dX4_mostHalves_13 (by decide) (by omega) (by omega) (fun c => ?_) (fun c => ?_)
  · refine fr_iload_n dX4_mostHalves_101 rfl ?_
    exact fr_iret dX4_mostHalves_102 rfl (rfl) (rfl)
  · omega
theorem p2_half {n : Nat} (h : 2 ≤ n ∧ n ≤ 6) : 2 * 2 ^ (n - 1) = 2 ^ n ∧ 2 ≤ 2 ^ (n - 1) ∧ 2 ^ (n - 1) ≤ 32 := by
  obtain ⟨k, rfl⟩ : ∃ k, n = k + 2 := ⟨n - 2, by omega⟩
  have h1 : 2 ^ (k + 1) ≤ 2 ^ 5 := Nat.pow_le_pow_right (by decide) (by omega)
  have h2 : 1 ≤ 2 ^ k := Nat.one_le_two_pow
  rw [show k + 2 - 1 = k + 1 by omega, Nat.pow_succ 2 (k + 1)]
  rw [Nat.pow_succ] at h1 ⊢
  omega
theorem c_takeAll {d n : Nat} {D : Nat → Nat → Int} {w : fw_S} (hd : 6 ≤ d) (h : pw w n D) (hD : okR n D 30) (hsy : sym n D) (h0 : ∀ i, i < n → D i i = 0) (b : Bool) (hb : b = true ↔ met n (fun i j => 2 * D i j)) : ∃ w', fw_K d mX4_takeAll [.ref 7] w none w' ∧ pw w' n D ∧ tb w' 8 9 n (plE n D b (2 ^ (n - 1) - 1)) ∧ (∃ f, fw_g w' 12 (.inr (64, .inl f)) ∧ ∀ s, s < 2 ^ (n - 1) - 1 → f (2 * (s + 1)) = plM n D b s) ∧ kp w w' (fun k => k = 8 ∨ k = 9 ∨ k = 10 ∨ k = 11 ∨ k = 12) := by
  obtain ⟨h7, h1, ⟨x, h8⟩, ⟨f9, h9⟩, ⟨fc, br, h10⟩, ⟨f11, h11⟩, ⟨f12, h12⟩⟩ := h
  have hn := h1.2.2
  have hp := p2_half hn
  have hD2 : okR n (fun i j => 2 * D i j) 60 := fun i j hi hj => by have := hD i j hi hj; show 0 ≤ 2 * D i j ∧ 2 * D i j ≤ 60; omega
  -- the copy
  obtain ⟨w1, a1, a2, a3⟩ := c_copyDoubled (d := 0) h8 h9 h1 (by decide) (by decide)
  have b7 := a3.g (k := 7) (by decide) h7
  have b10 := a3.g (k := 10) (by decide) h10
  have b11 := a3.g (k := 11) (by decide) h11
  have b12 := a3.g (k := 12) (by decide) h12
  have b1 := h1.kp a3 (by decide) (by decide)
  -- the law
  have l1 : lst w1 10 8 9 11 n (fun i j => 2 * D i j) fc br := ⟨b10, a2, ⟨f11, b11⟩, by decide⟩
  have u1 := l1.up (-4) br
  have u2 := u1.up (-4) 0
  obtain ⟨w2, j1, j2, j3⟩ := c_judgeDetours (d := 2) (by omega) u2 hD2
  have kj : kp w1 w2 (fun k => k = 10) := ((kp.up w1 10 _).trans (kp.up _ 10 _)).trans j3
  have hjudge : fw_K 3 mX1_judge [.ref 10, .int (iI 0)] w1 none w2 := by
    have g1 := l1.1
    have g2 := u1.1
    have g3 := u2.1
    refine fw_K.of (by decide) (Nat.le_of_ble_eq_true rfl) (by simp [Value.category]) (kj.1) ?_
    show fw_R _ _ 0 [some (.ref 10), some (.int (iI 0))] [] _ _ _
    refine fr_aload_n dX1_judge_0 rfl ?_
    refine fr_bipush dX1_judge_1 (by decide) ?_
    refine fr_put fX1_judge_3 pfX1_2 g1 (by simp) rfl ?_
    dsimp only [List.set, Option.toList, List.cons_append, List.nil_append]
    refine fr_aload_n dX1_judge_6 rfl ?_
    refine fr_iconst dX1_judge_7 ?_
    refine fr_put fX1_judge_8 pfX1_3 g2 (by simp) rfl ?_
    dsimp only [List.set, Option.toList, List.cons_append, List.nil_append]
    refine fr_iload_n dX1_judge_11 rfl ?_
    refine fr_tableIn (tgt := 40) dX1_judge_12 (by decide) (by decide) (by decide) rfl (by decide) ?_
    refine fr_aload_n dX1_judge_40 rfl ?_
    refine fr_callV kX1_judge_41 (j1) (by omega) g3 rfl rfl rfl ?_
    dsimp only [List.set, Option.toList, List.cons_append, List.nil_append]
    refine fr_goto (tgt := 69) dX1_judge_44 (by decide) ?_
    exact fr_vret dX1_judge_69 rfl rfl (rfl)
  have c7 := kj.g (k := 7) (by decide) b7
  have c11 := kj.g (k := 11) (by decide) b11
  have c12 := kj.g (k := 12) (by decide) b12
  have c1 := b1.kp kj (by decide) (by decide)
  have c10 := j2.1
  have c8 := j2.2.1
  have hlaw := law_met (n := n) (E := fun i j => 2 * D i j) (hi := 60) hn.2 (fun i j hi hj => by show 2 * D i j = 2 * D j i; rw [hsy i j hi hj]) (fun i hi => by show 2 * D i i = 0; rw [h0 i hi]; rfl) hD2
  have hbr := scC_r (p0 n (fun i j => 2 * D i j)) 512
  have hbe : b2 b = 1 ↔ scC (p0 n (fun i j => 2 * D i j)) 512 = 0 := by
    rw [hlaw, ← hb]; cases b <;> simp [b2]
  -- the cuts
  have hsh := iI_shl (m := 1) n (by rw [Nat.one_mul]; have := p2_le hn.2; omega) (by omega)
  rw [Nat.one_mul, ← hp.1] at hsh
  generalize 2 ^ (n - 1) = P at hp hsh ⊢
  have hp1 := hp.2
  have pub : ∀ s, s < P - 1 → 2 * (s + 1) < 64 := fun s hs => by omega
  have lp := lpE (M := mX4_takeAll) (d := d) (pcH := 37) (P - 1) (fun s _ => [some (.ref 7), some (.int (iI (b2 b))), some (.int (iI (2 * ((s : Int) + 1))))]) (fun s (_ : Unit) v => fw_g v 7 (.inl (4, [.ref 1, .ref 8, .ref 10, .ref 12])) ∧ tb v 8 9 n (plE n D b s) ∧ (∃ f, fw_g v 12 (.inr (64, .inl f)) ∧ ∀ s', s' < s → f (2 * (s' + 1)) = plM n D b s') ∧ kp w2 v (fun k => k = 9 ∨ k = 12)) (by
    intro s _ v hs ⟨g7, g8, ⟨f, g12, gf⟩, gk⟩
    have hss := pub s hs
    have hplE : sym n (plE n D b s) ∧ (b = true → met n (plE n D b s) ∧ okR n (plE n D b s) 60) := by
      cases hbb : b with
      | false => rw [pl_no]; exact ⟨fun i j hi hj => by show 2 * D i j = 2 * D j i; rw [hsy i j hi hj], fun z => (by cases z)⟩
      | true => have := pl_ok hD (hb.mp hbb) s; exact ⟨this.1.1, fun _ => this⟩
    have g12' := g12.up (.inr (64, .inl (fw_u f (2 * (s + 1)) (plM n D b s))))
    have g7' := g7.ne (k := 12) (.inr (64, .inl (fw_u f (2 * (s + 1)) (plM n D b s)))) (by decide)
    have g8' := g8.kp (kp.up v 12 (.inr (64, .inl (fw_u f (2 * (s + 1)) (plM n D b s))))) (by decide) (by decide)
    obtain ⟨w3, k1, k2, k3⟩ := c_putCut (d := 2) (cut := 2 * (s + 1)) (by omega) g8' hplE.1 hss (-(plM n D b s))
    refine ⟨(), w3, ⟨k3.g (by decide) g7', k2, ⟨_, k3.g (by decide) g12', fun s' hs' => ?_⟩, (gk.trans ((kp.up v 12 _).mono (fun k hk => Or.inr hk))).trans (k3.mono (fun k hk => Or.inl hk))⟩, ?_⟩
    · by_cases e : s' = s
      · subst e; rw [fw_u_self]
      · rw [fw_u_ne _ _ (by omega)]; exact gf s' (by omega)
    · intro r w' kk
      have g88 := g8.1
      have g88' := g8'.1
      have rb := b2_r b
      rw [show ((2 * (s + 1) : Nat) : Int) = 2 * ((s : Int) + 1) by omega] at k1
      have fin : fw_R mX4_takeAll d 68 [some (.ref 7), some (.int (iI (b2 b))), some (.int (iI (2 * ((s : Int) + 1))))] [.int (iI (plM n D b s)), .int (iI (2 * ((s : Int) + 1))), .ref 12] v r w' := by
        refine fr_iast (2 * (s + 1)) dX4_takeAll_68 g12 (by omega) (by omega) (by decide) ?_
        refine fr_aload_n dX4_takeAll_69 rfl ?_
        refine fr_get fX4_takeAll_70 g7' rfl ?_
        refine fr_iload_n dX4_takeAll_73 rfl ?_
        refine fr_aload_n dX4_takeAll_74 rfl ?_
        refine fr_get fX4_takeAll_75 g7' rfl ?_
        refine fr_iload_n dX4_takeAll_78 rfl ?_
        refine fr_iald (2 * (s + 1)) dX4_takeAll_79 g12' (by omega) (by omega) (by decide) ?_
        rw [fw_u_self]
        refine fr_ineg dX4_takeAll_80 ?_
        refine fr_callV kX4_takeAll_81 (k1) (by omega) g88' rfl rfl rfl ?_
        dsimp only [List.set, Option.toList, List.cons_append, List.nil_append]
        refine fr_iinc dX4_takeAll_84 rfl (by decide) rfl rfl ?_
        dsimp only [List.set, Option.toList, List.cons_append, List.nil_append]
        refine fr_goto (tgt := 37) dX4_takeAll_87 (by decide) ?_
        rw [show 2 * ((s : Int) + 1) + 2 = 2 * (((s + 1 : Nat) : Int) + 1) by omega]
        exact kk
      refine fr_iload_n dX4_takeAll_37 rfl ?_
      refine fr_iconst dX4_takeAll_38 ?_
      refine fr_aload_n dX4_takeAll_39 rfl ?_
      refine fr_get fX4_takeAll_40 g7 rfl ?_
      refine fr_get fX4_takeAll_43 g88 rfl ?_
      refine fr_ishl (((2 * P : Nat) : Int)) dX4_takeAll_46 (hsh) ?_
      refine fr_icmp_ge (tgt := 90) dX4_takeAll_47 (by decide) (by omega) (by omega) (fun c => ?_) (fun c => ?_)
      · omega
      refine fr_aload_n dX4_takeAll_50 rfl ?_
      refine fr_get fX4_takeAll_51 g7 rfl ?_
      refine fr_iload_n dX4_takeAll_54 rfl ?_
      refine fr_iload_n dX4_takeAll_55 rfl ?_
      refine fr_if_eq (tgt := 67) dX4_takeAll_56 (by decide) (by omega) (fun c2 => ?_) (fun c2 => ?_)
      · have hbf := b2_0.mp c2
        have e0 : plM n D b s = 0 := by unfold plM; rw [hbf]; rfl
        rw [e0] at fin
        refine fr_iconst dX4_takeAll_67 ?_
        exact fin
      · have hbt := b2_n0.mp c2
        have e0 : plM n D b s = mh n (plE n D b s) (2 * (s + 1)) := by unfold plM; rw [if_pos hbt]
        rw [e0] at fin
        have hmh := c_mostHalves (d := 2) (by omega) g7 g8 (hplE.2 hbt).1 (hplE.2 hbt).2 hss
        rw [show ((2 * (s + 1) : Nat) : Int) = 2 * ((s : Int) + 1) by omega] at hmh
        refine fr_aload_n dX4_takeAll_59 rfl ?_
        refine fr_iload_n dX4_takeAll_60 rfl ?_
        refine fr_callV kX4_takeAll_61 (hmh) (by omega) g7 rfl rfl rfl ?_
        dsimp only [List.set, Option.toList, List.cons_append, List.nil_append]
        refine fr_goto (tgt := 68) dX4_takeAll_64 (by decide) ?_
        exact fin)
  obtain ⟨_, wE, ⟨e7, e8, ⟨f, e12, ef⟩, ek⟩, hr⟩ := lp 0 () w2 (Nat.zero_le _) ⟨c7, c8, ⟨f12, c12, fun s' hs' => absurd hs' (Nat.not_lt_zero _)⟩, kp.rf⟩
  have kall : kp w wE (fun k => k = 8 ∨ k = 9 ∨ k = 10 ∨ k = 11 ∨ k = 12) := ((a3.mono (fun k hk => by omega)).trans (kj.mono (fun k hk => by omega))).trans (ek.mono (fun k hk => by omega))
  refine ⟨wE, ?_, ⟨e7, h1.kp kall (by decide) (by decide), ⟨_, e8.1⟩, ⟨_, e8.2.1.choose_spec.1⟩, ⟨_, _, ek.g (by decide) c10⟩, ⟨_, ek.g (by decide) c11⟩, ⟨f, e12⟩⟩, e8, ⟨f, e12, ef⟩, kall⟩
  refine fw_K.of (by decide) (Nat.le_of_ble_eq_true rfl) (by simp [Value.category]) (kall.1) ?_
  show fw_R _ _ 0 [some (.ref 7), none, none] [] _ _ _
  have a21 := a2.1
  have h11' := h1.1
  have e81 := e8.1
  have b10' := b10
  refine fr_aload_n dX4_takeAll_0 rfl ?_
  refine fr_get fX4_takeAll_1 h7 rfl ?_
  refine fr_aload_n dX4_takeAll_4 rfl ?_
  refine fr_get fX4_takeAll_5 h7 rfl ?_
  refine fr_callV kX4_takeAll_8 (a1) (by omega) h8 rfl rfl rfl ?_
  dsimp only [List.set, Option.toList, List.cons_append, List.nil_append]
  refine fr_aload_n dX4_takeAll_11 rfl ?_
  refine fr_get fX4_takeAll_12 b7 rfl ?_
  refine fr_iconst dX4_takeAll_15 ?_
  refine fr_callV kX4_takeAll_16 (hjudge) (by omega) b10 rfl rfl rfl ?_
  dsimp only [List.set, Option.toList, List.cons_append, List.nil_append]
  refine fr_aload_n dX4_takeAll_19 rfl ?_
  refine fr_get fX4_takeAll_20 c7 rfl ?_
  refine fr_get fX4_takeAll_23 c10 rfl ?_
  have fin : fw_R mX4_takeAll d 34 [some (.ref 7), none, none] [.int (iI (b2 b))] w2 none wE := by
    refine fr_istore_n dX4_takeAll_34 rfl (by decide) rfl rfl ?_
    dsimp only [List.set, Option.toList, List.cons_append, List.nil_append]
    refine fr_iconst dX4_takeAll_35 ?_
    refine fr_istore_n dX4_takeAll_36 rfl (by decide) rfl rfl ?_
    dsimp only [List.set, Option.toList, List.cons_append, List.nil_append]
    refine hr _ _ ?_
    refine fr_iload_n dX4_takeAll_37 rfl ?_
    refine fr_iconst dX4_takeAll_38 ?_
    refine fr_aload_n dX4_takeAll_39 rfl ?_
    refine fr_get fX4_takeAll_40 e7 rfl ?_
    refine fr_get fX4_takeAll_43 e81 rfl ?_
    refine fr_ishl (((2 * P : Nat) : Int)) dX4_takeAll_46 (hsh) ?_
    refine fr_icmp_ge (tgt := 90) dX4_takeAll_47 (by decide) (by omega) (by omega) (fun c => ?_) (fun c => ?_)
    · exact fr_vret dX4_takeAll_90 rfl rfl (rfl)
    · omega
  refine fr_if_ne (tgt := 33) dX4_takeAll_26 (by decide) (by omega) (fun c => ?_) (fun c => ?_)
  · rw [show b2 b = 0 by have r := b2_r b; by_cases z : b2 b = 1; exact absurd (hbe.mp z) c; omega] at fin
    refine fr_iconst dX4_takeAll_33 ?_
    exact fin
  · rw [hbe.mpr c] at fin
    refine fr_iconst dX4_takeAll_29 ?_
    refine fr_goto (tgt := 34) dX4_takeAll_30 (by decide) ?_
    exact fin
