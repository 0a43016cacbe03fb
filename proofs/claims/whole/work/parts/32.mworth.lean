/-! the reference: determinants -/
def mw (w : fw_S) (n : Nat) (D : Nat → Nat → Int) (A B : Int) : Prop := mA w n D A B ∧ (∃ f, fw_g w 23 (.inr (5, .inl f))) ∧ (∃ g, fw_g w 24 (.inr (32, .inr g)))
theorem bn_1 : ∀ s : Nat, s < 32 → ∀ m : Nat, m < 6 → s < 2 ^ m → bitsN s m = popc s := by decide +kernel
theorem bn_2 : ∀ s : Nat, s < 32 → ∀ m : Nat, m < 5 → bitsN s m ≤ m ∧ bitsN s (m + 1) = bitsN s m + (if s.testBit m = true then 1 else 0) := by decide +kernel
theorem bn_3 : ∀ C : Nat, C < 32 → ∀ m : Nat, m < 5 → popc (C / 2 ^ m) = popc (C / 2 ^ (m + 1)) + (if C.testBit m = true then 1 else 0) := by decide +kernel
theorem bn_4 : ∀ k : Nat, k < 6 → popc (2 ^ k - 1) = k := by decide +kernel
theorem bn_5 : ∀ C : Nat, C < 32 → ∀ k : Nat, k < 6 → C < 2 ^ k → C / 2 ^ k = 0 ∧ popc C ≤ k := by decide +kernel
theorem mr_4 : ∀ s : Nat, s < 32 → ∀ k : Nat, k < 5 → k < popc s → s.testBit (mrow s k) = true := by decide +kernel
def sgm (C m : Nat) : Int := if popc (C / 2 ^ m) % 2 = 1 then -1 else 1
theorem c_worth {d n set : Nat} {D : Nat → Nat → Int} {A B : Int} {w : fw_S} (hd : 1 ≤ d) (h : mw w n D A B) (hD : okR n D 30) (hs : set < 2 ^ (n - 1)) : ∃ w', fw_K d mX8_worth [.ref 18, .int (iI set)] w (some (.long (lI (dtS D set)))) w' ∧ mw w' n D A B ∧ kp w w' (fun k => k = 23 ∨ k = 24) := by
  obtain ⟨hA, ⟨f0, hf0⟩, ⟨g0, hg0⟩⟩ := h
  have hn := hA.2.2
  have hp := p2_half hn
  have hs32 : set < 32 := Nat.lt_of_lt_of_le hs hp.2.2
  have hmem : ∀ c, c < popc set → mrow set c + 1 < n := fun c hc => by
    have hc5 : c < 5 := by have := (phi_D set hs32).2; omega
    have h1 := tb_le (mr_4 set hs32 c hc5 hc)
    rcases Nat.lt_or_ge (mrow set c) (n - 1) with q | q
    · omega
    · have := Nat.pow_le_pow_right (n := 2) (by decide) q
      omega
  have hsz := (phi_D set hs32).2
  -- the points of the set
  have first := lpE (M := mX8_worth) (d := d) (pcH := 4) (n - 1) (fun j _ => [some (.ref 18), some (.int (iI set)), some (.int (iI (bitsN set j))), some (.int (iI ((j : Int) + 1))), none, none, none, none, none, none, none, none, none]) (fun j (_ : Unit) v => mA v n D A B ∧ (∃ f, fw_g v 23 (.inr (5, .inl f)) ∧ ∀ c, c < bitsN set j → f c = (mrow set c : Int) + 1) ∧ kp w v (fun k => k = 23)) (by
    intro j _ v hj ⟨g1, ⟨f, g2, g3⟩, g4⟩
    have g11 := g1.1
    have hb2 := bn_2 set hs32 j (by omega)
    have hbit := bit_r (z := set) (k := j) (by omega) (by omega)
    have rb := b2_r (set.testBit j)
    cases hb : set.testBit j with
    | true =>
      rw [hb, if_pos rfl] at hb2
      have hm := mr_1 set (by omega) j (by omega) hb
      rw [hb2.2, show bitsN set j + 1 - 1 = bitsN set j by omega] at hm
      refine ⟨(), fw_up v 23 (.inr (5, .inl (fw_u f (bitsN set j) ((j : Int) + 1)))), ⟨g1.kp (kp.up v 23 _) (by decide) (by decide), ⟨_, g2.up _, fun c hc => ?_⟩, g4.trans (kp.up _ _ _)⟩, ?_⟩
      · rw [hb2.2] at hc
        by_cases e : c = bitsN set j
        · subst e; rw [fw_u_self, hm]
        · rw [fw_u_ne _ _ e]; exact g3 c (by omega)
      · intro r w' kk
        rw [hb2.2, show ((j + 1 : Nat) : Int) = (j : Int) + 1 by omega] at kk
        rw [hb] at hbit rb
        refine fr_iload_n dX8_worth_4 rfl ?_
        refine fr_aload_n dX8_worth_5 rfl ?_
        refine fr_get fX8_worth_6 g11 rfl ?_
        refine fr_icmp_ge (tgt := 39) dX8_worth_9 (by decide) (by omega) (by omega) (fun c => ?_) (fun c => ?_)
        · omega
        refine fr_iload_n dX8_worth_12 rfl ?_
        refine fr_iload_n dX8_worth_13 rfl ?_
        refine fr_iconst dX8_worth_14 ?_
        refine fr_isub dX8_worth_15 ?_
        rw [show (j : Int) + 1 - 1 = (j : Int) by omega]
        refine fr_ishr (((set / 2 ^ j : Nat) : Int)) dX8_worth_16 (hbit.1) ?_
        refine fr_iconst dX8_worth_17 ?_
        refine fr_iand (b2 true) dX8_worth_18 (hbit.2.1) ?_
        refine fr_iconst dX8_worth_19 ?_
        refine fr_icmp_ne (tgt := 33) dX8_worth_20 (by decide) (by omega) (by omega) (fun c2 => ?_) (fun c2 => ?_)
        · exact absurd rfl c2
        refine fr_aload_n dX8_worth_23 rfl ?_
        refine fr_get fX8_worth_24 g11 rfl ?_
        refine fr_iload_n dX8_worth_27 rfl ?_
        refine fr_iload_n dX8_worth_28 rfl ?_
        refine fr_iast ((bitsN set j)) dX8_worth_29 g2 (by omega) (by omega) (by decide) ?_
        refine fr_iinc dX8_worth_30 rfl (by decide) rfl rfl ?_
        dsimp only [List.set, Option.toList, List.cons_append, List.nil_append]
        refine fr_iinc dX8_worth_33 rfl (by decide) rfl rfl ?_
        dsimp only [List.set, Option.toList, List.cons_append, List.nil_append]
        refine fr_goto (tgt := 4) dX8_worth_36 (by decide) ?_
        exact kk
    | false =>
      rw [hb, if_neg (by decide), Nat.add_zero] at hb2
      refine ⟨(), v, ⟨g1, ⟨f, g2, fun c hc => g3 c (by rw [hb2.2] at hc; exact hc)⟩, g4⟩, ?_⟩
      intro r w' kk
      rw [hb2.2, show ((j + 1 : Nat) : Int) = (j : Int) + 1 by omega] at kk
      rw [hb] at hbit rb
      refine fr_iload_n dX8_worth_4 rfl ?_
      refine fr_aload_n dX8_worth_5 rfl ?_
      refine fr_get fX8_worth_6 g11 rfl ?_
      refine fr_icmp_ge (tgt := 39) dX8_worth_9 (by decide) (by omega) (by omega) (fun c => ?_) (fun c => ?_)
      · omega
      refine fr_iload_n dX8_worth_12 rfl ?_
      refine fr_iload_n dX8_worth_13 rfl ?_
      refine fr_iconst dX8_worth_14 ?_
      refine fr_isub dX8_worth_15 ?_
      rw [show (j : Int) + 1 - 1 = (j : Int) by omega]
      refine fr_ishr (((set / 2 ^ j : Nat) : Int)) dX8_worth_16 (hbit.1) ?_
      refine fr_iconst dX8_worth_17 ?_
      refine fr_iand (b2 false) dX8_worth_18 (hbit.2.1) ?_
      refine fr_iconst dX8_worth_19 ?_
      refine fr_icmp_ne (tgt := 33) dX8_worth_20 (by decide) (by omega) (by omega) (fun c2 => ?_) (fun c2 => ?_)
      · refine fr_iinc dX8_worth_33 rfl (by decide) rfl rfl ?_
        dsimp only [List.set, Option.toList, List.cons_append, List.nil_append]
        refine fr_goto (tgt := 4) dX8_worth_36 (by decide) ?_
        exact kk
      · exact absurd c2 (by decide))
  obtain ⟨_, w1, ⟨a1, ⟨f, a2, a3⟩, a4⟩, hr1⟩ := first 0 () w (Nat.zero_le _) ⟨hA, ⟨f0, hf0, fun c hc => absurd hc (Nat.not_lt_zero c)⟩, kp.rf⟩
  have hbe := bn_1 set hs32 (n - 1) (by omega) hs
  rw [hbe] at a3
  have a5 := a4.g (k := 24) (by decide) hg0
  -- the sets of columns
  obtain ⟨G, hG⟩ : ∃ G : Nat → Nat → Int, G = fun a b => gD D (mrow set a) (mrow set b) := ⟨_, rfl⟩
  obtain ⟨sz, hsze⟩ : ∃ s, s = popc set := ⟨_, rfl⟩
  rw [← hsze] at hmem hsz a3
  have hP : 2 ^ sz ≤ 32 := Nat.pow_le_pow_right (n := 2) (j := 5) (by decide) hsz
  have hP1 : 1 ≤ 2 ^ sz := Nat.one_le_two_pow
  have hsh := iI_shl (m := 1) sz (by omega) (by omega)
  rw [Nat.one_mul] at hsh
  have second := lpE (M := mX8_worth) (d := d) (pcH := 48) (2 ^ sz) (fun C _ => [some (.ref 18), some (.int (iI set)), some (.int (iI sz)), some (.int (iI C)), none, none, none, none, none, none, none, none, none]) (fun C (_ : Unit) v => 1 ≤ C ∧ mA v n D A B ∧ fw_g v 23 (.inr (5, .inl f)) ∧ (∃ g, fw_g v 24 (.inr (32, .inr g)) ∧ ∀ c, c < C → g c = DC G (fun a => a) (popc c) c) ∧ kp w1 v (fun k => k = 24)) (by
    intro C _ v hC ⟨hC1, g1, g2, ⟨g, g3, g4⟩, g5⟩
    have g11 := g1.1
    have hC32 : C < 32 := by omega
    have hpo := popc_pos C (by omega) hC1
    have hb5 := bn_5 C hC32 sz (by omega) hC
    obtain ⟨k, hk⟩ : ∃ k, popc C = k + 1 := ⟨popc C - 1, by omega⟩
    obtain ⟨F, hF⟩ : ∃ F : Nat → Int, F = fun c => sg C c * (G k c * DC G (fun a => a) k (C - 2 ^ c)) := ⟨_, rfl⟩
    have hval : DC G (fun a => a) (popc C) C = sumTo F C sz := by rw [hk, DC_s, hF, sumTo_top hsz hC]
    refine ⟨(), fw_up v 24 (.inr (32, .inr (fw_u g C (sumTo F C sz)))), ⟨by omega, g1.kp (kp.up v 24 _) (by decide) (by decide), g2.ne _ (by decide), ⟨_, g3.up _, fun c hc => ?_⟩, g5.trans (kp.up _ _ _)⟩, ?_⟩
    · by_cases e : c = C
      · subst e; rw [fw_u_self, hval]
      · rw [fw_u_ne _ _ e]; exact g4 c (by omega)
    · intro r w' kk
      have hfk := a3 k (by omega)
      have hrow := hmem k (by omega)
      have inner : ∀ m : Nat, m ≤ sz → ∀ x10 : Option Value, fw_R mX8_worth d 79 [some (.ref 18), some (.int (iI set)), some (.int (iI sz)), some (.int (iI C)), some (.int (iI ((mrow set k : Int) + 1))), some (.long (lI (sumTo F C sz - sumTo F C m))), none, some (.long (lI (sgm C m))), none, some (.int (iI ((m : Int) - 1))), none, none, none] [] v r w' := by
        intro m
        induction m with
        | zero =>
          intro _ _
          rw [show sumTo F C 0 = 0 from rfl, Int.sub_zero]
          refine fr_iload dX8_worth_79 rfl ?_
          refine fr_if_lt (tgt := 195) dX8_worth_81 (by decide) (by omega) (fun c => ?_) (fun c => ?_)
          · refine fr_aload_n dX8_worth_195 rfl ?_
            refine fr_get fX8_worth_196 g11 rfl ?_
            refine fr_iload_n dX8_worth_199 rfl ?_
            refine fr_lload dX8_worth_200 rfl ?_
            refine fr_last (C) dX8_worth_202 g3 (by omega) (by omega) (by decide) ?_
            refine fr_iinc dX8_worth_203 rfl (by decide) rfl rfl ?_
            dsimp only [List.set, Option.toList, List.cons_append, List.nil_append]
            refine fr_goto (tgt := 48) dX8_worth_206 (by decide) ?_
            exact kk.wk (by simp [fw_le])
          · omega
        | succ m ih =>
          intro hm _
          have ih := ih (by omega) none
          have hbit := bit_r (z := C) (k := m) (by omega) (by omega)
          have rb := b2_r (C.testBit m)
          have hb3 := bn_3 C hC32 m (by omega)
          rw [show ((m + 1 : Nat) : Int) - 1 = (m : Int) by omega]
          refine fr_iload dX8_worth_79 rfl ?_
          refine fr_if_lt (tgt := 195) dX8_worth_81 (by decide) (by omega) (fun c => ?_) (fun c => ?_)
          · omega
          refine fr_iload_n dX8_worth_84 rfl ?_
          refine fr_iload dX8_worth_85 rfl ?_
          refine fr_ishr (((C / 2 ^ m : Nat) : Int)) dX8_worth_87 (hbit.1) ?_
          refine fr_iconst dX8_worth_88 ?_
          refine fr_iand (b2 (C.testBit m)) dX8_worth_89 (hbit.2.1) ?_
          refine fr_iconst dX8_worth_90 ?_
          refine fr_icmp_ne (tgt := 189) dX8_worth_91 (by decide) (by omega) (by omega) (fun c2 => ?_) (fun c2 => ?_)
          · have hb : C.testBit m = false := by cases hz : C.testBit m with
              | false => rfl
              | true => rw [hz] at c2; exact absurd rfl c2
            rw [hb, if_neg (by decide), Nat.add_zero] at hb3
            have e1 : sumTo F C (m + 1) = sumTo F C m := by rw [sumTo_s, hb]; simp
            have e2 : sgm C (m + 1) = sgm C m := by unfold sgm; rw [hb3]
            rw [e1, e2]
            refine fr_iinc dX8_worth_189 rfl (by decide) rfl rfl ?_
            dsimp only [List.set, Option.toList, List.cons_append, List.nil_append]
            refine fr_goto (tgt := 79) dX8_worth_192 (by decide) ?_
            rw [show (m : Int) + -1 = (m : Int) - 1 by omega]
            exact ih
          · have hb : C.testBit m = true := by cases hz : C.testBit m with
              | true => rfl
              | false => rw [hz] at c2; exact absurd c2 (by decide)
            rw [hb, if_pos rfl] at hb3
            have hmm := hmem m (by omega)
            have hfm := a3 m (by omega)
            have hle := tb_le hb
            have h2p : 1 ≤ 2 ^ m := Nat.one_le_two_pow
            have hsh2 := iI_shl (m := 1) m (by rw [Nat.one_mul]; omega) (by omega)
            rw [Nat.one_mul] at hsh2
            have hix := ix_1 (2 ^ m) (by omega)
            have hia := ia_1 C (by omega) (2 ^ m) (by omega)
            rw [ia_2 C (by omega) m (by omega) hb] at hia
            have hsub := sub_2 C hC32 m (by omega) hb
            have hgv : g (C - 2 ^ m) = DC G (fun a => a) k (C - 2 ^ m) := by
              rw [g4 (C - 2 ^ m) (by omega), show popc (C - 2 ^ m) = k by omega]
            have hlt : C - 2 ^ m < 32 := Nat.lt_of_le_of_lt (Nat.sub_le _ _) hC32
            have e1 : sumTo F C (m + 1) = sumTo F C m + F m := by rw [sumTo_s, if_pos hb]
            have e2 : -sgm C (m + 1) = sgm C m := by
              unfold sgm
              by_cases hz : popc (C / 2 ^ (m + 1)) % 2 = 1
              · rw [if_pos hz, if_neg (by omega)]; rfl
              · rw [if_neg hz, if_pos (by omega)]
            have e3 : F m = sgm C (m + 1) * G k m * DC G (fun a => a) k (C - 2 ^ m) := by rw [hF, Int.mul_assoc]; rfl
            have dr1 := hD 0 (mrow set k + 1) (by omega) hrow
            have dr2 := hD 0 (mrow set m + 1) (by omega) hmm
            have dr3 := hD (mrow set k + 1) (mrow set m + 1) hrow hmm
            have q1 := c_mdist (d := 0) g1 (i := 0) (j := mrow set k + 1) (by omega) hrow
            have q2 := c_mdist (d := 0) g1 (i := 0) (j := mrow set m + 1) (by omega) hmm
            have q3 := c_mdist (d := 0) g1 (i := mrow set k + 1) (j := mrow set m + 1) hrow hmm
            rw [show ((mrow set k + 1 : Nat) : Int) = (mrow set k : Int) + 1 by omega] at q1 q3
            rw [show ((mrow set m + 1 : Nat) : Int) = (mrow set m : Int) + 1 by omega] at q2 q3
            refine fr_aload_n dX8_worth_94 rfl ?_
            refine fr_get fX8_worth_95 g11 rfl ?_
            refine fr_iload dX8_worth_98 rfl ?_
            refine fr_iald (m) dX8_worth_100 g2 (by omega) (by omega) (by decide) ?_
            rw [hfm]
            refine fr_istore dX8_worth_101 (by decide) rfl rfl ?_
            dsimp only [List.set, Option.toList, List.cons_append, List.nil_append]
            refine fr_aload_n dX8_worth_103 rfl ?_
            refine fr_iconst dX8_worth_104 ?_
            refine fr_iload dX8_worth_105 rfl ?_
            refine fr_callV kX8_worth_107 (q1) (by omega) g11 rfl rfl rfl ?_
            dsimp only [List.set, Option.toList, List.cons_append, List.nil_append]
            refine fr_i2l dX8_worth_110 (by omega) ?_
            refine fr_aload_n dX8_worth_111 rfl ?_
            refine fr_iconst dX8_worth_112 ?_
            refine fr_iload dX8_worth_113 rfl ?_
            refine fr_callV kX8_worth_115 (q1) (by omega) g11 rfl rfl rfl ?_
            dsimp only [List.set, Option.toList, List.cons_append, List.nil_append]
            refine fr_i2l dX8_worth_118 (by omega) ?_
            refine fr_lmul dX8_worth_119 ?_
            refine fr_aload_n dX8_worth_120 rfl ?_
            refine fr_iconst dX8_worth_121 ?_
            refine fr_iload dX8_worth_122 rfl ?_
            refine fr_callV kX8_worth_124 (q2) (by omega) g11 rfl rfl rfl ?_
            dsimp only [List.set, Option.toList, List.cons_append, List.nil_append]
            refine fr_i2l dX8_worth_127 (by omega) ?_
            refine fr_aload_n dX8_worth_128 rfl ?_
            refine fr_iconst dX8_worth_129 ?_
            refine fr_iload dX8_worth_130 rfl ?_
            refine fr_callV kX8_worth_132 (q2) (by omega) g11 rfl rfl rfl ?_
            dsimp only [List.set, Option.toList, List.cons_append, List.nil_append]
            refine fr_i2l dX8_worth_135 (by omega) ?_
            refine fr_lmul dX8_worth_136 ?_
            refine fr_ladd dX8_worth_137 ?_
            refine fr_aload_n dX8_worth_138 rfl ?_
            refine fr_iload dX8_worth_139 rfl ?_
            refine fr_iload dX8_worth_141 rfl ?_
            refine fr_callV kX8_worth_143 (q3) (by omega) g11 rfl rfl rfl ?_
            dsimp only [List.set, Option.toList, List.cons_append, List.nil_append]
            refine fr_i2l dX8_worth_146 (by omega) ?_
            refine fr_aload_n dX8_worth_147 rfl ?_
            refine fr_iload dX8_worth_148 rfl ?_
            refine fr_iload dX8_worth_150 rfl ?_
            refine fr_callV kX8_worth_152 (q3) (by omega) g11 rfl rfl rfl ?_
            dsimp only [List.set, Option.toList, List.cons_append, List.nil_append]
            refine fr_i2l dX8_worth_155 (by omega) ?_
            refine fr_lmul dX8_worth_156 ?_
            refine fr_lsub dX8_worth_157 ?_
            refine fr_lstore dX8_worth_158 (by decide) rfl rfl ?_
            dsimp only [List.set, Option.toList, List.cons_append, List.nil_append]
            refine fr_lload dX8_worth_160 rfl ?_
            refine fr_lload dX8_worth_162 rfl ?_
            refine fr_lload dX8_worth_164 rfl ?_
            refine fr_lmul dX8_worth_166 ?_
            refine fr_aload_n dX8_worth_167 rfl ?_
            refine fr_get fX8_worth_168 g11 rfl ?_
            refine fr_iload_n dX8_worth_171 rfl ?_
            refine fr_iconst dX8_worth_172 ?_
            refine fr_iload dX8_worth_173 rfl ?_
            refine fr_ishl (((2 ^ m : Nat) : Int)) dX8_worth_175 (hsh2) ?_
            refine fr_iconst dX8_worth_176 ?_
            refine fr_ixor ((-((2 ^ m : Nat) : Int) - 1)) dX8_worth_177 (hix) ?_
            refine fr_iand (((C - 2 ^ m : Nat) : Int)) dX8_worth_178 (hia) ?_
            refine fr_lald ((C - 2 ^ m)) dX8_worth_179 g3 (by omega) (by omega) (by decide) ?_
            refine fr_lmul dX8_worth_180 ?_
            rw [hgv]
            refine fr_ladd dX8_worth_181 ?_
            refine fr_lstore dX8_worth_182 (by decide) rfl rfl ?_
            dsimp only [List.set, Option.toList, List.cons_append, List.nil_append]
            refine fr_lload dX8_worth_184 rfl ?_
            refine fr_lneg dX8_worth_186 ?_
            refine fr_lstore dX8_worth_187 (by decide) rfl rfl ?_
            dsimp only [List.set, Option.toList, List.cons_append, List.nil_append]
            refine fr_iinc dX8_worth_189 rfl (by decide) rfl rfl ?_
            dsimp only [List.set, Option.toList, List.cons_append, List.nil_append]
            refine fr_goto (tgt := 79) dX8_worth_192 (by decide) ?_
            have e4 : (D 0 (mrow set k + 1) * D 0 (mrow set k + 1) + D 0 (mrow set m + 1) * D 0 (mrow set m + 1) - D (mrow set k + 1) (mrow set m + 1) * D (mrow set k + 1) (mrow set m + 1)) = G k m := by rw [hG]; rfl
            rw [e4, e2, show (m : Int) + -1 = (m : Int) - 1 by omega, show sumTo F C sz - sumTo F C (m + 1) + sgm C (m + 1) * G k m * DC G (fun a => a) k (C - 2 ^ m) = sumTo F C sz - sumTo F C m by rw [e1, ← e3]; omega]
            exact ih.wk (by simp [fw_le])
      have st := inner sz (Nat.le_refl sz) none
      rw [Int.sub_self, show sgm C sz = 1 by unfold sgm; rw [hb5.1]; rfl] at st
      have hbc := c_mbits (d := 0) (v := C) (w := v) (by omega)
      rw [hk] at hbc
      refine fr_iload_n dX8_worth_48 rfl ?_
      refine fr_iconst dX8_worth_49 ?_
      refine fr_iload_n dX8_worth_50 rfl ?_
      refine fr_ishl ((((2 ^ sz : Nat)) : Int)) dX8_worth_51 (hsh) ?_
      refine fr_icmp_ge (tgt := 209) dX8_worth_52 (by decide) (by omega) (by omega) (fun c => ?_) (fun c => ?_)
      · omega
      refine fr_aload_n dX8_worth_55 rfl ?_
      refine fr_get fX8_worth_56 g11 rfl ?_
      refine fr_iload_n dX8_worth_59 rfl ?_
      refine fr_callS kX8_worth_60 (hbc) (by omega) rfl rfl rfl ?_
      dsimp only [List.set, Option.toList, List.cons_append, List.nil_append]
      refine fr_iconst dX8_worth_63 ?_
      refine fr_isub dX8_worth_64 ?_
      rw [show ((k + 1 : Nat) : Int) - 1 = (k : Int) by omega]
      refine fr_iald (k) dX8_worth_65 g2 (by omega) (by omega) (by decide) ?_
      rw [hfk]
      refine fr_istore dX8_worth_66 (by decide) rfl rfl ?_
      dsimp only [List.set, Option.toList, List.cons_append, List.nil_append]
      refine fr_lconst (z := 0) dX8_worth_68 (by decide) ?_
      refine fr_lstore dX8_worth_69 (by decide) rfl rfl ?_
      dsimp only [List.set, Option.toList, List.cons_append, List.nil_append]
      refine fr_lconst (z := 1) dX8_worth_71 (by decide) ?_
      refine fr_lstore dX8_worth_72 (by decide) rfl rfl ?_
      dsimp only [List.set, Option.toList, List.cons_append, List.nil_append]
      refine fr_iload_n dX8_worth_74 rfl ?_
      refine fr_iconst dX8_worth_75 ?_
      refine fr_isub dX8_worth_76 ?_
      refine fr_istore dX8_worth_77 (by decide) rfl rfl ?_
      dsimp only [List.set, Option.toList, List.cons_append, List.nil_append]
      exact st)
  have a11 := a1.1
  have b5 := a5.up (.inr (32, .inr (fw_u g0 0 1)))
  have b2' := a2.ne (k := 24) (.inr (32, .inr (fw_u g0 0 1))) (by decide)
  have b1 := a1.kp (kp.up w1 24 (.inr (32, .inr (fw_u g0 0 1)))) (by decide) (by decide)
  obtain ⟨_, w2, ⟨-, e1, e2, ⟨g, e3, e4⟩, e5⟩, hr2⟩ := second 1 () (fw_up w1 24 (.inr (32, .inr (fw_u g0 0 1)))) (by omega) ⟨Nat.le_refl 1, b1, b2', ⟨_, b5, fun c hc => by rw [show c = 0 by omega, fw_u_self]; rfl⟩, kp.up _ _ _⟩
  have kall : kp w w2 (fun k => k = 23 ∨ k = 24) := (a4.mono (fun k hk => Or.inl hk)).trans (e5.mono (fun k hk => Or.inr hk))
  have e11 := e1.1
  refine ⟨w2, ?_, ⟨e1, ⟨f, e2⟩, ⟨g, e3⟩⟩, kall⟩
  have hfin : g (2 ^ sz - 1) = dtS D set := by
    rw [e4 _ (by omega), bn_4 sz (by omega), hG, DC_phi (gD D) hs32 sz (2 ^ sz - 1) (by omega) (by rw [← hsze]; omega), hsze, (phi_D set hs32).1]
    rfl
  refine fw_K.of (by decide) (Nat.le_of_ble_eq_true rfl) (by simp [Value.category]) (kall.1) ?_
  show fw_R _ _ 0 [some (.ref 18), some (.int (iI set)), none, none, none, none, none, none, none, none, none, none, none] [] _ _ _
  refine fr_iconst dX8_worth_0 ?_
  refine fr_istore_n dX8_worth_1 rfl (by decide) rfl rfl ?_
  dsimp only [List.set, Option.toList, List.cons_append, List.nil_append]
  refine fr_iconst dX8_worth_2 ?_
  refine fr_istore_n dX8_worth_3 rfl (by decide) rfl rfl ?_
  dsimp only [List.set, Option.toList, List.cons_append, List.nil_append]
  refine hr1 _ _ ?_
  rw [hbe, ← hsze]
  refine fr_iload_n dX8_worth_4 rfl ?_
  refine fr_aload_n dX8_worth_5 rfl ?_
  refine fr_get fX8_worth_6 a11 rfl ?_
  refine fr_icmp_ge (tgt := 39) dX8_worth_9 (by decide) (by omega) (by omega) (fun c => ?_) (fun c => ?_)
  · refine fr_aload_n dX8_worth_39 rfl ?_
    refine fr_get fX8_worth_40 a11 rfl ?_
    refine fr_iconst dX8_worth_43 ?_
    refine fr_lconst (z := 1) dX8_worth_44 (by decide) ?_
    refine fr_last (0) dX8_worth_45 a5 (by omega) (by omega) (by decide) ?_
    refine fr_iconst dX8_worth_46 ?_
    refine fr_istore_n dX8_worth_47 rfl (by decide) rfl rfl ?_
    dsimp only [List.set, Option.toList, List.cons_append, List.nil_append]
    refine hr2 _ _ ?_
    refine fr_iload_n dX8_worth_48 rfl ?_
    refine fr_iconst dX8_worth_49 ?_
    refine fr_iload_n dX8_worth_50 rfl ?_
    refine fr_ishl ((((2 ^ sz : Nat)) : Int)) dX8_worth_51 (hsh) ?_
    refine fr_icmp_ge (tgt := 209) dX8_worth_52 (by decide) (by omega) (by omega) (fun c => ?_) (fun c => ?_)
    · refine fr_aload_n dX8_worth_209 rfl ?_
      refine fr_get fX8_worth_210 e11 rfl ?_
      refine fr_iconst dX8_worth_213 ?_
      refine fr_iload_n dX8_worth_214 rfl ?_
      refine fr_ishl ((((2 ^ sz : Nat)) : Int)) dX8_worth_215 (hsh) ?_
      refine fr_iconst dX8_worth_216 ?_
      refine fr_isub dX8_worth_217 ?_
      refine fr_lald ((2 ^ sz - 1)) dX8_worth_218 e3 (by omega) (by omega) (by decide) ?_
      exact fr_lret dX8_worth_219 rfl (by rw [hfin]) rfl
    · omega
  · omega
