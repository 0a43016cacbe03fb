/-! the constructors: what they ask, and their contracts -/
abbrev mL_law : fw_M := (yL_law, cL_law, 4, some .boolean)
set_option maxRecDepth 20000
theorem kx.rf {w : fw_S} {X : Nat → Prop} : kx w w 0 X := ⟨rfl, fun _ _ _ => rfl⟩
theorem kx.push {w w0 : fw_S} {n : Nat} {X : Nat → Prop} (h : kx w w0 n X) (e : fw_E) : kx w (fw_push w0 e) (n + 1) X := ⟨by show w0.1 + 1 = _; rw [h.1]; rfl, fun k hk hX => by
  have := h.1
  exact (if_neg (by omega)).trans (h.2 k hk hX)⟩
theorem kx.up {w w0 : fw_S} {n k0 : Nat} {X : Nat → Prop} (h : kx w w0 n X) (e : fw_E) (hk0 : X k0 ∨ w.1 ≤ k0) : kx w (fw_up w0 k0 e) n X := ⟨h.1, fun k hk hX => by
  have h2 : k ≠ k0 := by
    intro q; subst q
    rcases hk0 with h3 | h3
    · exact hX h3
    · omega
  exact (fw_up_ne w0 e h2).trans (h.2 k hk hX)⟩
theorem kx.kp {w w0 w1 : fw_S} {n : Nat} {X Y : Nat → Prop} (h : kx w w0 n X) (hk : kp w0 w1 Y) (hY : ∀ k, Y k → X k ∨ w.1 ≤ k) : kx w w1 n X := ⟨hk.1.trans h.1, fun k hk1 hX => by
  have h2 : ¬ Y k := by
    intro q
    rcases hY k q with h3 | h3
    · exact hX h3
    · omega
  exact (hk.2 k h2).trans (h.2 k hk1 hX)⟩
theorem kx.kx {w w0 w1 : fw_S} {n n' : Nat} {X Y : Nat → Prop} (h : kx w w0 n X) (h' : kx w0 w1 n' Y) (hY : ∀ k, Y k → X k ∨ w.1 ≤ k) : kx w w1 (n + n') X := ⟨by rw [h'.1, h.1, Nat.add_assoc], fun k hk1 hX => by
  have h2 : ¬ Y k := by
    intro q
    rcases hY k q with h3 | h3
    · exact hX h3
    · omega
  have h3 := h.1
  exact (h'.2 k (by omega) h2).trans (h.2 k hk1 hX)⟩
theorem gX6_init_9 : fk_putG mX6_init 9 6 0 := ⟨9, RX6, TX6, 2, tyX6, _, dX6_init_9, rfl, inX6, by decide, rfl, rfl, (okm (i := 62) rfl rfl), tyX6_ok, nmX6, rfl, rfl, fun _ => rfl, fun _ => rfl⟩
theorem gX1_init_9 : fk_putG mX1_init 9 1 1 := ⟨11, RX1, TX1, 4, tyX1, _, dX1_init_9, rfl, inX1, by decide, rfl, rfl, (okm (i := 83) rfl rfl), tyX1_ok, nmX1, rfl, rfl, fun _ => rfl, fun _ => rfl⟩
theorem gX1_init_14 : fk_putG mX1_init 14 1 0 := ⟨15, RX1, TX1, 4, tyX1, _, dX1_init_14, rfl, inX1, by decide, rfl, rfl, (okm (i := 82) rfl rfl), tyX1_ok, nmX1, rfl, rfl, fun _ => rfl, fun _ => rfl⟩
theorem gX3_init_9 : fk_putG mX3_init 9 3 1 := ⟨9, RX3, TX3, 2, tyX3, _, dX3_init_9, rfl, inX3, by decide, rfl, rfl, (okm (i := 105) rfl rfl), tyX3_ok, nmX3, rfl, rfl, fun _ => rfl, fun _ => rfl⟩
theorem gX3_init_14 : fk_putG mX3_init 14 3 0 := ⟨15, RX3, TX3, 2, tyX3, _, dX3_init_14, rfl, inX3, by decide, rfl, rfl, (okm (i := 104) rfl rfl), tyX3_ok, nmX3, rfl, rfl, fun _ => rfl, fun _ => rfl⟩
theorem iX4_init_9 : fk_I mX4_init mX6_init 9 0 := ⟨11, "", dX4_init_9, Or.inl (okm (i := 119) rfl rfl), (okm (i := 55) rfl rfl), (okm (i := 34) rfl rfl), (okm (i := 56) rfl rfl), rfl, rfl, ⟨by decide, by decide, rfl⟩, by decide⟩
theorem gX4_init_12 : fk_putG mX4_init 12 4 1 := ⟨12, RX4, TX4, 4, tyX4, _, dX4_init_12, rfl, inX4, by decide, rfl, rfl, (okm (i := 123) rfl rfl), tyX4_ok, nmX4, rfl, rfl, fun _ => rfl, fun _ => rfl⟩
theorem iX4_init_24 : fk_I mX4_init mX1_init 24 1 := ⟨20, "", dX4_init_24, Or.inl (okm (i := 121) rfl rfl), (okm (i := 79) rfl rfl), (okm (i := 35) rfl rfl), (okm (i := 80) rfl rfl), rfl, rfl, ⟨by decide, by decide, rfl⟩, by decide⟩
theorem gX4_init_27 : fk_putG mX4_init 27 4 2 := ⟨23, RX4, TX4, 4, tyX4, _, dX4_init_27, rfl, inX4, by decide, rfl, rfl, (okm (i := 125) rfl rfl), tyX4_ok, nmX4, rfl, rfl, fun _ => rfl, fun _ => rfl⟩
theorem gX4_init_35 : fk_putG mX4_init 35 4 3 := ⟨27, RX4, TX4, 4, tyX4, _, dX4_init_35, rfl, inX4, by decide, rfl, rfl, (okm (i := 126) rfl rfl), tyX4_ok, nmX4, rfl, rfl, fun _ => rfl, fun _ => rfl⟩
theorem gX4_init_40 : fk_putG mX4_init 40 4 0 := ⟨31, RX4, TX4, 4, tyX4, _, dX4_init_40, rfl, inX4, by decide, rfl, rfl, (okm (i := 122) rfl rfl), tyX4_ok, nmX4, rfl, rfl, fun _ => rfl, fun _ => rfl⟩
theorem gX2_init_9 : fk_putG mX2_init 9 2 1 := ⟨9, RX2, TX2, 7, tyX2, _, dX2_init_9, rfl, inX2, by decide, rfl, rfl, (okm (i := 144) rfl rfl), tyX2_ok, nmX2, rfl, rfl, fun _ => rfl, fun _ => rfl⟩
theorem gX2_init_14 : fk_putG mX2_init 14 2 0 := ⟨15, RX2, TX2, 7, tyX2, _, dX2_init_14, rfl, inX2, by decide, rfl, rfl, (okm (i := 143) rfl rfl), tyX2_ok, nmX2, rfl, rfl, fun _ => rfl, fun _ => rfl⟩
theorem gX0_init_6 : fk_putG mX0_init 6 0 0 := ⟨9, RX0, TX0, 1, tyX0, _, dX0_init_6, rfl, inX0, by decide, rfl, rfl, (okm (i := 172) rfl rfl), tyX0_ok, nmX0, rfl, rfl, fun _ => rfl, fun _ => rfl⟩
theorem gX5_init_9 : fk_putG mX5_init 9 5 0 := ⟨9, RX5, TX5, 1, tyX5, _, dX5_init_9, rfl, inX5, by decide, rfl, rfl, (okm (i := 182) rfl rfl), tyX5_ok, nmX5, rfl, rfl, fun _ => rfl, fun _ => rfl⟩
theorem iX7_init_9 : fk_I mX7_init mX6_init 9 0 := ⟨11, "", dX7_init_9, Or.inl (okm (i := 54) rfl rfl), (okm (i := 55) rfl rfl), (okm (i := 34) rfl rfl), (okm (i := 56) rfl rfl), rfl, rfl, ⟨by decide, by decide, rfl⟩, by decide⟩
theorem gX7_init_12 : fk_putG mX7_init 12 7 0 := ⟨12, RX7, TX7, 7, tyX7, _, dX7_init_12, rfl, inX7, by decide, rfl, rfl, (okm (i := 187) rfl rfl), tyX7_ok, nmX7, rfl, rfl, fun _ => rfl, fun _ => rfl⟩
theorem iX7_init_24 : fk_I mX7_init mX1_init 24 1 := ⟨18, "", dX7_init_24, Or.inl (okm (i := 78) rfl rfl), (okm (i := 79) rfl rfl), (okm (i := 35) rfl rfl), (okm (i := 80) rfl rfl), rfl, rfl, ⟨by decide, by decide, rfl⟩, by decide⟩
theorem gX7_init_27 : fk_putG mX7_init 27 7 1 := ⟨21, RX7, TX7, 7, tyX7, _, dX7_init_27, rfl, inX7, by decide, rfl, rfl, (okm (i := 188) rfl rfl), tyX7_ok, nmX7, rfl, rfl, fun _ => rfl, fun _ => rfl⟩
theorem iX7_init_39 : fk_I mX7_init mX3_init 39 1 := ⟨27, "", dX7_init_39, Or.inl (okm (i := 100) rfl rfl), (okm (i := 101) rfl rfl), (okm (i := 36) rfl rfl), (okm (i := 102) rfl rfl), rfl, rfl, ⟨by decide, by decide, rfl⟩, by decide⟩
theorem gX7_init_42 : fk_putG mX7_init 42 7 2 := ⟨28, RX7, TX7, 7, tyX7, _, dX7_init_42, rfl, inX7, by decide, rfl, rfl, (okm (i := 189) rfl rfl), tyX7_ok, nmX7, rfl, rfl, fun _ => rfl, fun _ => rfl⟩
theorem iX7_init_54 : fk_I mX7_init mX4_init 54 1 := ⟨34, "", dX7_init_54, Or.inl (okm (i := 114) rfl rfl), (okm (i := 115) rfl rfl), (okm (i := 37) rfl rfl), (okm (i := 116) rfl rfl), rfl, rfl, ⟨by decide, by decide, rfl⟩, by decide⟩
theorem gX7_init_57 : fk_putG mX7_init 57 7 3 := ⟨35, RX7, TX7, 7, tyX7, _, dX7_init_57, rfl, inX7, by decide, rfl, rfl, (okm (i := 190) rfl rfl), tyX7_ok, nmX7, rfl, rfl, fun _ => rfl, fun _ => rfl⟩
theorem iX7_init_69 : fk_I mX7_init mX2_init 69 1 := ⟨41, "", dX7_init_69, Or.inl (okm (i := 139) rfl rfl), (okm (i := 140) rfl rfl), (okm (i := 38) rfl rfl), (okm (i := 141) rfl rfl), rfl, rfl, ⟨by decide, by decide, rfl⟩, by decide⟩
theorem gX7_init_72 : fk_putG mX7_init 72 7 4 := ⟨42, RX7, TX7, 7, tyX7, _, dX7_init_72, rfl, inX7, by decide, rfl, rfl, (okm (i := 191) rfl rfl), tyX7_ok, nmX7, rfl, rfl, fun _ => rfl, fun _ => rfl⟩
theorem iX7_init_84 : fk_I mX7_init mX0_init 84 1 := ⟨48, "", dX7_init_84, Or.inl (okm (i := 168) rfl rfl), (okm (i := 169) rfl rfl), (okm (i := 39) rfl rfl), (okm (i := 170) rfl rfl), rfl, rfl, ⟨by decide, by decide, rfl⟩, by decide⟩
theorem gX7_init_87 : fk_putG mX7_init 87 7 5 := ⟨49, RX7, TX7, 7, tyX7, _, dX7_init_87, rfl, inX7, by decide, rfl, rfl, (okm (i := 192) rfl rfl), tyX7_ok, nmX7, rfl, rfl, fun _ => rfl, fun _ => rfl⟩
theorem iX7_init_95 : fk_I mX7_init mX5_init 95 0 := ⟨55, "FewWays", dX7_init_95, Or.inr (fw_nm (i := 178) rfl rfl), (okm (i := 179) rfl rfl), (okm (i := 40) rfl rfl), (okm (i := 180) rfl rfl), rfl, rfl, ⟨by decide, by decide, rfl⟩, by decide⟩
theorem gX7_init_98 : fk_putG mX7_init 98 7 6 := ⟨56, RX7, TX7, 7, tyX7, _, dX7_init_98, rfl, inX7, by decide, rfl, rfl, (okm (i := 193) rfl rfl), tyX7_ok, nmX7, rfl, rfl, fun _ => rfl, fun _ => rfl⟩
theorem gX8_init_14 : fk_putG mX8_init 14 8 1 := ⟨13, RX8, TX8, 10, tyX8, _, dX8_init_14, rfl, inX8, by decide, rfl, rfl, (okm (i := 513) rfl rfl), tyX8_ok, nmX8, rfl, rfl, fun _ => rfl, fun _ => rfl⟩
theorem gX8_init_22 : fk_putG mX8_init 22 8 2 := ⟨17, RX8, TX8, 10, tyX8, _, dX8_init_22, rfl, inX8, by decide, rfl, rfl, (okm (i := 514) rfl rfl), tyX8_ok, nmX8, rfl, rfl, fun _ => rfl, fun _ => rfl⟩
theorem gX8_init_30 : fk_putG mX8_init 30 8 3 := ⟨20, RX8, TX8, 10, tyX8, _, dX8_init_30, rfl, inX8, by decide, rfl, rfl, (okm (i := 515) rfl rfl), tyX8_ok, nmX8, rfl, rfl, fun _ => rfl, fun _ => rfl⟩
theorem gX8_init_38 : fk_putG mX8_init 38 8 4 := ⟨23, RX8, TX8, 10, tyX8, _, dX8_init_38, rfl, inX8, by decide, rfl, rfl, (okm (i := 516) rfl rfl), tyX8_ok, nmX8, rfl, rfl, fun _ => rfl, fun _ => rfl⟩
theorem gX8_init_45 : fk_putG mX8_init 45 8 5 := ⟨26, RX8, TX8, 10, tyX8, _, dX8_init_45, rfl, inX8, by decide, rfl, rfl, (okm (i := 517) rfl rfl), tyX8_ok, nmX8, rfl, rfl, fun _ => rfl, fun _ => rfl⟩
theorem gX8_init_53 : fk_putG mX8_init 53 8 6 := ⟨29, RX8, TX8, 10, tyX8, _, dX8_init_53, rfl, inX8, by decide, rfl, rfl, (okm (i := 518) rfl rfl), tyX8_ok, nmX8, rfl, rfl, fun _ => rfl, fun _ => rfl⟩
theorem gX8_init_61 : fk_putG mX8_init 61 8 7 := ⟨33, RX8, TX8, 10, tyX8, _, dX8_init_61, rfl, inX8, by decide, rfl, rfl, (okm (i := 519) rfl rfl), tyX8_ok, nmX8, rfl, rfl, fun _ => rfl, fun _ => rfl⟩
theorem iL_law_4 : fk_I mL_law mX7_init 4 0 := ⟨9, "", dL_law_4, Or.inl (okm (i := 46) rfl rfl), (okm (i := 47) rfl rfl), (okm (i := 33) rfl rfl), (okm (i := 48) rfl rfl), rfl, rfl, ⟨by decide, by decide, rfl⟩, by decide⟩
theorem iL_law_12 : fk_I mL_law mX8_init 12 0 := ⟨12, "", dL_law_12, Or.inl (okm (i := 504) rfl rfl), (okm (i := 505) rfl rfl), (okm (i := 41) rfl rfl), (okm (i := 506) rfl rfl), rfl, rfl, ⟨by decide, by decide, rfl⟩, by decide⟩
theorem c_X6_init {o N : Nat} {w : fw_S} (g0_o : fw_g w o (.inl (6, [.null, .int 0]))) (n0 : w.1 = N) (f0 : fw_wf w) : ∃ w', fa_K 1 1 36 mX6_init [.ref o] w w' ∧ kx w w' 1 (fun k => k = o) ∧ tb w' o N 2 D1 ∧ fw_wf w' := by
  have x0 : kx w w 0 (fun k => k = o) := kx.rf
  have oN : o < N := by have := g0_o.1; omega
  obtain ⟨w1, ew1⟩ : ∃ x, x = fw_push w (.inr (36, .inl (fun _ => 0))) := ⟨_, rfl⟩
  have g1_o : fw_g w1 o (.inl (6, [.null, .int 0])) := by rw [ew1]; exact fw_g.push g0_o
  have g1_N : fw_g w1 N (.inr (36, .inl (fun _ => 0))) := by rw [ew1, ← n0]; exact fw_g.new
  have n1 : w1.1 = (N + 1) := by rw [ew1]; show w.1 + 1 = _; omega
  have f1 : fw_wf w1 := by rw [ew1]; exact f0.push trivial
  have x1 : kx w w1 1 (fun k => k = o) := by rw [ew1]; exact x0.push _
  obtain ⟨w2, ew2⟩ : ∃ x, x = fw_up w1 o (.inl (6, [.ref N, .int 0])) := ⟨_, rfl⟩
  have g2_N : fw_g w2 N (.inr (36, .inl (fun _ => 0))) := by rw [ew2]; exact g1_N.ne _ (by omega)
  have g2_o : fw_g w2 o (.inl (6, [.ref N, .int 0])) := by rw [ew2]; exact g1_o.up _
  have n2 : w2.1 = (N + 1) := by rw [ew2]; exact n1
  have f2 : fw_wf w2 := by
    rw [ew2]
    refine fw_up_wf f1 (fun v hv r hr => ?_)
    subst hr
    simp only [List.mem_cons, Value.ref.injEq, reduceCtorEq, false_or, or_false, List.not_mem_nil] at hv
    have hv : @Eq Nat r N := hv
    show @LT.lt Nat _ r w1.1
    omega
  have x2 : kx w w2 1 (fun k => k = o) := by rw [ew2]; exact x1.up _ (by omega)
  obtain ⟨w3, K3, t3, p3⟩ := c_reset (d := 0) (n := 2) g2_o g2_N (by omega)
  have n3 : w3.1 = (N + 1) := p3.1.trans n2
  have f3 : fw_wf w3 := by
    refine f2.kp p3 (fun k hk hk2 => ?_)
    rcases hk with rfl | rfl
    · rw [t3.1.2]
      intro v hv r hr
      subst hr
      simp only [List.mem_cons, Value.ref.injEq, reduceCtorEq, false_or, or_false, List.not_mem_nil] at hv
      have hv : @Eq Nat r N := hv
      show @LT.lt Nat _ r w2.1
      omega
    · obtain ⟨f, hf, -⟩ := t3.2.1
      rw [hf.2]; exact trivial
  have x3 : kx w w3 1 (fun k => k = o) := x2.kp p3 (fun k hk => by omega)
  refine ⟨w3, ?_, x3, t3, f3⟩
  refine fa_K.of (by decide) (by omega) f0 (Nat.le_of_ble_eq_true rfl) (fun p l e s m args below meth c g0 ls C hin Z hl => ?_)
  obtain ⟨_, hin1, hin2⟩ := hin
  have hin : meth.name = "<init>" := hin2.trans (hin1.symm.trans rfl)
  skip
  have eo : fw_ad g0 o = fw_ad g0 o := rfl
  refine lv_aload_n C.1 C.2.1 dX6_init_0 rfl (lv_at hl 0 rfl) ?_
  refine fx_obj C dX6_init_1 (okm (i := 57) rfl rfl) (okm (i := 50) rfl rfl) (okm (i := 51) rfl rfl) hl.1 (Nat.le_of_ble_eq_true rfl) (by decide) ?_
  refine lv_aload_n C.1 C.2.1 dX6_init_4 rfl (lv_at hl 0 rfl) ?_
  refine lv_bipush (v := iI ((36 : Nat) : Int)) C.1 C.2.1 dX6_init_5 (by decide) ?_
  refine fx_newaI C Z rfl (okm (i := 75) rfl rfl) 36 (by decide) dX6_init_7 (by decide) (by decide) (fun ad q1 H ha hq Z => ?_)
  rw [← ew1] at Z
  rw [n0] at hq
  have eo := (ha o (by omega)).trans eo
  have e1 := hq
  refine fx_putF C hin Z gX6_init_9 (fs' := [.ref N, .int 0]) g1_o eo e1 (by omega) (by simp) rfl (fun H locs Z => ?_)
  rw [← ew2] at Z
  refine lv_aload_n C.1 C.2.1 dX6_init_12 rfl (lv_at hl 0 rfl) ?_
  refine lv_iconst (v := iI ((2 : Nat) : Int)) C.1 C.2.1 dX6_init_13 (by decide) ?_
  refine fx_callV C Z (As' := []) kX6_init_14 K3 (by decide) g2_o rfl (fun _ => rfl) eo rfl (Nat.le_of_ble_eq_true rfl) hl.1 (Nat.le_trans (by decide) C.2.2.2.2.2.2.2.2.2.2.2.1) (Nat.le_trans (by decide) C.2.2.2.2.2.2.2.2.2.2.2.2) f3 (fun _ => rfl) (fun H locs Z => ?_)
  exact fx_ret C Z rfl dX6_init_17 rfl (by decide) (by decide)
theorem c_X1_init {o N t : Nat} {w : fw_S} (g0_o : fw_g w o (.inl (1, [.null, .null, .int 0, .int 0]))) (n0 : w.1 = N) (f0 : fw_wf w) (tN : t < N) : ∃ w', fa_K 1 1 6 mX1_init [.ref o, .ref t] w w' ∧ kx w w' 1 (fun k => k = o) ∧ fw_g w' o (.inl (1, [.ref t, .ref N, .int 0, .int 0])) ∧ fw_g w' N (.inr (6, .inl (fun _ => 0))) ∧ fw_wf w' := by
  have x0 : kx w w 0 (fun k => k = o) := kx.rf
  have oN : o < N := by have := g0_o.1; omega
  obtain ⟨w1, ew1⟩ : ∃ x, x = fw_push w (.inr (6, .inl (fun _ => 0))) := ⟨_, rfl⟩
  have g1_o : fw_g w1 o (.inl (1, [.null, .null, .int 0, .int 0])) := by rw [ew1]; exact fw_g.push g0_o
  have g1_N : fw_g w1 N (.inr (6, .inl (fun _ => 0))) := by rw [ew1, ← n0]; exact fw_g.new
  have n1 : w1.1 = (N + 1) := by rw [ew1]; show w.1 + 1 = _; omega
  have f1 : fw_wf w1 := by rw [ew1]; exact f0.push trivial
  have x1 : kx w w1 1 (fun k => k = o) := by rw [ew1]; exact x0.push _
  obtain ⟨w2, ew2⟩ : ∃ x, x = fw_up w1 o (.inl (1, [.null, .ref N, .int 0, .int 0])) := ⟨_, rfl⟩
  have g2_N : fw_g w2 N (.inr (6, .inl (fun _ => 0))) := by rw [ew2]; exact g1_N.ne _ (by omega)
  have g2_o : fw_g w2 o (.inl (1, [.null, .ref N, .int 0, .int 0])) := by rw [ew2]; exact g1_o.up _
  have n2 : w2.1 = (N + 1) := by rw [ew2]; exact n1
  have f2 : fw_wf w2 := by
    rw [ew2]
    refine fw_up_wf f1 (fun v hv r hr => ?_)
    subst hr
    simp only [List.mem_cons, Value.ref.injEq, reduceCtorEq, false_or, or_false, List.not_mem_nil] at hv
    have hv : @Eq Nat r N := hv
    show @LT.lt Nat _ r w1.1
    omega
  have x2 : kx w w2 1 (fun k => k = o) := by rw [ew2]; exact x1.up _ (by omega)
  obtain ⟨w3, ew3⟩ : ∃ x, x = fw_up w2 o (.inl (1, [.ref t, .ref N, .int 0, .int 0])) := ⟨_, rfl⟩
  have g3_N : fw_g w3 N (.inr (6, .inl (fun _ => 0))) := by rw [ew3]; exact g2_N.ne _ (by omega)
  have g3_o : fw_g w3 o (.inl (1, [.ref t, .ref N, .int 0, .int 0])) := by rw [ew3]; exact g2_o.up _
  have n3 : w3.1 = (N + 1) := by rw [ew3]; exact n2
  have f3 : fw_wf w3 := by
    rw [ew3]
    refine fw_up_wf f2 (fun v hv r hr => ?_)
    subst hr
    simp only [List.mem_cons, Value.ref.injEq, reduceCtorEq, false_or, or_false, List.not_mem_nil] at hv
    have hv : @Eq Nat r t ∨ @Eq Nat r N := hv
    show @LT.lt Nat _ r w2.1
    omega
  have x3 : kx w w3 1 (fun k => k = o) := by rw [ew3]; exact x2.up _ (by omega)
  refine ⟨w3, ?_, x3, g3_o, g3_N, f3⟩
  refine fa_K.of (by decide) (by omega) f0 (Nat.le_of_ble_eq_true rfl) (fun p l e s m args below meth c g0 ls C hin Z hl => ?_)
  obtain ⟨_, hin1, hin2⟩ := hin
  have hin : meth.name = "<init>" := hin2.trans (hin1.symm.trans rfl)
  skip
  have eo : fw_ad g0 o = fw_ad g0 o := rfl
  have et : fw_ad g0 t = fw_ad g0 t := rfl
  refine lv_aload_n C.1 C.2.1 dX1_init_0 rfl (lv_at hl 0 rfl) ?_
  refine fx_obj C dX1_init_1 (okm (i := 81) rfl rfl) (okm (i := 50) rfl rfl) (okm (i := 51) rfl rfl) hl.1 (Nat.le_of_ble_eq_true rfl) (by decide) ?_
  refine lv_aload_n C.1 C.2.1 dX1_init_4 rfl (lv_at hl 0 rfl) ?_
  refine lv_bipush (v := iI ((6 : Nat) : Int)) C.1 C.2.1 dX1_init_5 (by decide) ?_
  refine fx_newaI C Z rfl (okm (i := 75) rfl rfl) 6 (by decide) dX1_init_7 (by decide) (by decide) (fun ad q1 H ha hq Z => ?_)
  rw [← ew1] at Z
  rw [n0] at hq
  have eo := (ha o (by omega)).trans eo
  have et := (ha t (by omega)).trans et
  have e1 := hq
  refine fx_putF C hin Z gX1_init_9 (fs' := [.null, .ref N, .int 0, .int 0]) g1_o eo e1 (by omega) (by simp) rfl (fun H locs Z => ?_)
  rw [← ew2] at Z
  refine lv_aload_n C.1 C.2.1 dX1_init_12 rfl (lv_at hl 0 rfl) ?_
  refine lv_aload_n C.1 C.2.1 dX1_init_13 rfl (lv_at hl 1 rfl) ?_
  refine fx_putF C hin Z gX1_init_14 (fs' := [.ref t, .ref N, .int 0, .int 0]) g2_o eo et (by omega) (by simp) rfl (fun H locs Z => ?_)
  rw [← ew3] at Z
  exact fx_ret C Z rfl dX1_init_17 rfl (by decide) (by decide)
theorem c_X3_init {o N t : Nat} {w : fw_S} (g0_o : fw_g w o (.inl (3, [.null, .null]))) (n0 : w.1 = N) (f0 : fw_wf w) (tN : t < N) : ∃ w', fa_K 1 1 32 mX3_init [.ref o, .ref t] w w' ∧ kx w w' 1 (fun k => k = o) ∧ fw_g w' o (.inl (3, [.ref t, .ref N])) ∧ fw_g w' N (.inr (32, .inr (fun _ => 0))) ∧ fw_wf w' := by
  have x0 : kx w w 0 (fun k => k = o) := kx.rf
  have oN : o < N := by have := g0_o.1; omega
  obtain ⟨w1, ew1⟩ : ∃ x, x = fw_push w (.inr (32, .inr (fun _ => 0))) := ⟨_, rfl⟩
  have g1_o : fw_g w1 o (.inl (3, [.null, .null])) := by rw [ew1]; exact fw_g.push g0_o
  have g1_N : fw_g w1 N (.inr (32, .inr (fun _ => 0))) := by rw [ew1, ← n0]; exact fw_g.new
  have n1 : w1.1 = (N + 1) := by rw [ew1]; show w.1 + 1 = _; omega
  have f1 : fw_wf w1 := by rw [ew1]; exact f0.push trivial
  have x1 : kx w w1 1 (fun k => k = o) := by rw [ew1]; exact x0.push _
  obtain ⟨w2, ew2⟩ : ∃ x, x = fw_up w1 o (.inl (3, [.null, .ref N])) := ⟨_, rfl⟩
  have g2_N : fw_g w2 N (.inr (32, .inr (fun _ => 0))) := by rw [ew2]; exact g1_N.ne _ (by omega)
  have g2_o : fw_g w2 o (.inl (3, [.null, .ref N])) := by rw [ew2]; exact g1_o.up _
  have n2 : w2.1 = (N + 1) := by rw [ew2]; exact n1
  have f2 : fw_wf w2 := by
    rw [ew2]
    refine fw_up_wf f1 (fun v hv r hr => ?_)
    subst hr
    simp only [List.mem_cons, Value.ref.injEq, reduceCtorEq, false_or, or_false, List.not_mem_nil] at hv
    have hv : @Eq Nat r N := hv
    show @LT.lt Nat _ r w1.1
    omega
  have x2 : kx w w2 1 (fun k => k = o) := by rw [ew2]; exact x1.up _ (by omega)
  obtain ⟨w3, ew3⟩ : ∃ x, x = fw_up w2 o (.inl (3, [.ref t, .ref N])) := ⟨_, rfl⟩
  have g3_N : fw_g w3 N (.inr (32, .inr (fun _ => 0))) := by rw [ew3]; exact g2_N.ne _ (by omega)
  have g3_o : fw_g w3 o (.inl (3, [.ref t, .ref N])) := by rw [ew3]; exact g2_o.up _
  have n3 : w3.1 = (N + 1) := by rw [ew3]; exact n2
  have f3 : fw_wf w3 := by
    rw [ew3]
    refine fw_up_wf f2 (fun v hv r hr => ?_)
    subst hr
    simp only [List.mem_cons, Value.ref.injEq, reduceCtorEq, false_or, or_false, List.not_mem_nil] at hv
    have hv : @Eq Nat r t ∨ @Eq Nat r N := hv
    show @LT.lt Nat _ r w2.1
    omega
  have x3 : kx w w3 1 (fun k => k = o) := by rw [ew3]; exact x2.up _ (by omega)
  refine ⟨w3, ?_, x3, g3_o, g3_N, f3⟩
  refine fa_K.of (by decide) (by omega) f0 (Nat.le_of_ble_eq_true rfl) (fun p l e s m args below meth c g0 ls C hin Z hl => ?_)
  obtain ⟨_, hin1, hin2⟩ := hin
  have hin : meth.name = "<init>" := hin2.trans (hin1.symm.trans rfl)
  skip
  have eo : fw_ad g0 o = fw_ad g0 o := rfl
  have et : fw_ad g0 t = fw_ad g0 t := rfl
  refine lv_aload_n C.1 C.2.1 dX3_init_0 rfl (lv_at hl 0 rfl) ?_
  refine fx_obj C dX3_init_1 (okm (i := 103) rfl rfl) (okm (i := 50) rfl rfl) (okm (i := 51) rfl rfl) hl.1 (Nat.le_of_ble_eq_true rfl) (by decide) ?_
  refine lv_aload_n C.1 C.2.1 dX3_init_4 rfl (lv_at hl 0 rfl) ?_
  refine lv_bipush (v := iI ((32 : Nat) : Int)) C.1 C.2.1 dX3_init_5 (by decide) ?_
  refine fx_newaJ C Z rfl (okm (i := 111) rfl rfl) 32 (by decide) dX3_init_7 (by decide) (by decide) (fun ad q1 H ha hq Z => ?_)
  rw [← ew1] at Z
  rw [n0] at hq
  have eo := (ha o (by omega)).trans eo
  have et := (ha t (by omega)).trans et
  have e1 := hq
  refine fx_putF C hin Z gX3_init_9 (fs' := [.null, .ref N]) g1_o eo e1 (by omega) (by simp) rfl (fun H locs Z => ?_)
  rw [← ew2] at Z
  refine lv_aload_n C.1 C.2.1 dX3_init_12 rfl (lv_at hl 0 rfl) ?_
  refine lv_aload_n C.1 C.2.1 dX3_init_13 rfl (lv_at hl 1 rfl) ?_
  refine fx_putF C hin Z gX3_init_14 (fs' := [.ref t, .ref N]) g2_o eo et (by omega) (by simp) rfl (fun H locs Z => ?_)
  rw [← ew3] at Z
  exact fx_ret C Z rfl dX3_init_17 rfl (by decide) (by decide)
theorem c_X2_init {o N t : Nat} {w : fw_S} (g0_o : fw_g w o (.inl (2, [.null, .null, .int 0, .int 0, .int 0, .int 0, .int 0]))) (n0 : w.1 = N) (f0 : fw_wf w) (tN : t < N) : ∃ w', fa_K 1 1 6 mX2_init [.ref o, .ref t] w w' ∧ kx w w' 1 (fun k => k = o) ∧ fw_g w' o (.inl (2, [.ref t, .ref N, .int 0, .int 0, .int 0, .int 0, .int 0])) ∧ fw_g w' N (.inr (6, .inl (fun _ => 0))) ∧ fw_wf w' := by
  have x0 : kx w w 0 (fun k => k = o) := kx.rf
  have oN : o < N := by have := g0_o.1; omega
  obtain ⟨w1, ew1⟩ : ∃ x, x = fw_push w (.inr (6, .inl (fun _ => 0))) := ⟨_, rfl⟩
  have g1_o : fw_g w1 o (.inl (2, [.null, .null, .int 0, .int 0, .int 0, .int 0, .int 0])) := by rw [ew1]; exact fw_g.push g0_o
  have g1_N : fw_g w1 N (.inr (6, .inl (fun _ => 0))) := by rw [ew1, ← n0]; exact fw_g.new
  have n1 : w1.1 = (N + 1) := by rw [ew1]; show w.1 + 1 = _; omega
  have f1 : fw_wf w1 := by rw [ew1]; exact f0.push trivial
  have x1 : kx w w1 1 (fun k => k = o) := by rw [ew1]; exact x0.push _
  obtain ⟨w2, ew2⟩ : ∃ x, x = fw_up w1 o (.inl (2, [.null, .ref N, .int 0, .int 0, .int 0, .int 0, .int 0])) := ⟨_, rfl⟩
  have g2_N : fw_g w2 N (.inr (6, .inl (fun _ => 0))) := by rw [ew2]; exact g1_N.ne _ (by omega)
  have g2_o : fw_g w2 o (.inl (2, [.null, .ref N, .int 0, .int 0, .int 0, .int 0, .int 0])) := by rw [ew2]; exact g1_o.up _
  have n2 : w2.1 = (N + 1) := by rw [ew2]; exact n1
  have f2 : fw_wf w2 := by
    rw [ew2]
    refine fw_up_wf f1 (fun v hv r hr => ?_)
    subst hr
    simp only [List.mem_cons, Value.ref.injEq, reduceCtorEq, false_or, or_false, List.not_mem_nil] at hv
    have hv : @Eq Nat r N := hv
    show @LT.lt Nat _ r w1.1
    omega
  have x2 : kx w w2 1 (fun k => k = o) := by rw [ew2]; exact x1.up _ (by omega)
  obtain ⟨w3, ew3⟩ : ∃ x, x = fw_up w2 o (.inl (2, [.ref t, .ref N, .int 0, .int 0, .int 0, .int 0, .int 0])) := ⟨_, rfl⟩
  have g3_N : fw_g w3 N (.inr (6, .inl (fun _ => 0))) := by rw [ew3]; exact g2_N.ne _ (by omega)
  have g3_o : fw_g w3 o (.inl (2, [.ref t, .ref N, .int 0, .int 0, .int 0, .int 0, .int 0])) := by rw [ew3]; exact g2_o.up _
  have n3 : w3.1 = (N + 1) := by rw [ew3]; exact n2
  have f3 : fw_wf w3 := by
    rw [ew3]
    refine fw_up_wf f2 (fun v hv r hr => ?_)
    subst hr
    simp only [List.mem_cons, Value.ref.injEq, reduceCtorEq, false_or, or_false, List.not_mem_nil] at hv
    have hv : @Eq Nat r t ∨ @Eq Nat r N := hv
    show @LT.lt Nat _ r w2.1
    omega
  have x3 : kx w w3 1 (fun k => k = o) := by rw [ew3]; exact x2.up _ (by omega)
  refine ⟨w3, ?_, x3, g3_o, g3_N, f3⟩
  refine fa_K.of (by decide) (by omega) f0 (Nat.le_of_ble_eq_true rfl) (fun p l e s m args below meth c g0 ls C hin Z hl => ?_)
  obtain ⟨_, hin1, hin2⟩ := hin
  have hin : meth.name = "<init>" := hin2.trans (hin1.symm.trans rfl)
  skip
  have eo : fw_ad g0 o = fw_ad g0 o := rfl
  have et : fw_ad g0 t = fw_ad g0 t := rfl
  refine lv_aload_n C.1 C.2.1 dX2_init_0 rfl (lv_at hl 0 rfl) ?_
  refine fx_obj C dX2_init_1 (okm (i := 142) rfl rfl) (okm (i := 50) rfl rfl) (okm (i := 51) rfl rfl) hl.1 (Nat.le_of_ble_eq_true rfl) (by decide) ?_
  refine lv_aload_n C.1 C.2.1 dX2_init_4 rfl (lv_at hl 0 rfl) ?_
  refine lv_bipush (v := iI ((6 : Nat) : Int)) C.1 C.2.1 dX2_init_5 (by decide) ?_
  refine fx_newaI C Z rfl (okm (i := 75) rfl rfl) 6 (by decide) dX2_init_7 (by decide) (by decide) (fun ad q1 H ha hq Z => ?_)
  rw [← ew1] at Z
  rw [n0] at hq
  have eo := (ha o (by omega)).trans eo
  have et := (ha t (by omega)).trans et
  have e1 := hq
  refine fx_putF C hin Z gX2_init_9 (fs' := [.null, .ref N, .int 0, .int 0, .int 0, .int 0, .int 0]) g1_o eo e1 (by omega) (by simp) rfl (fun H locs Z => ?_)
  rw [← ew2] at Z
  refine lv_aload_n C.1 C.2.1 dX2_init_12 rfl (lv_at hl 0 rfl) ?_
  refine lv_aload_n C.1 C.2.1 dX2_init_13 rfl (lv_at hl 1 rfl) ?_
  refine fx_putF C hin Z gX2_init_14 (fs' := [.ref t, .ref N, .int 0, .int 0, .int 0, .int 0, .int 0]) g2_o eo et (by omega) (by simp) rfl (fun H locs Z => ?_)
  rw [← ew3] at Z
  exact fx_ret C Z rfl dX2_init_17 rfl (by decide) (by decide)
theorem c_X0_init {o N t : Nat} {w : fw_S} (g0_o : fw_g w o (.inl (0, [.null]))) (n0 : w.1 = N) (f0 : fw_wf w) (tN : t < N) : ∃ w', fa_K 1 0 0 mX0_init [.ref o, .ref t] w w' ∧ kx w w' 0 (fun k => k = o) ∧ fw_g w' o (.inl (0, [.ref t])) ∧ fw_wf w' := by
  have x0 : kx w w 0 (fun k => k = o) := kx.rf
  have oN : o < N := by have := g0_o.1; omega
  obtain ⟨w1, ew1⟩ : ∃ x, x = fw_up w o (.inl (0, [.ref t])) := ⟨_, rfl⟩
  have g1_o : fw_g w1 o (.inl (0, [.ref t])) := by rw [ew1]; exact g0_o.up _
  have n1 : w1.1 = N := by rw [ew1]; exact n0
  have f1 : fw_wf w1 := by
    rw [ew1]
    refine fw_up_wf f0 (fun v hv r hr => ?_)
    subst hr
    simp only [List.mem_cons, Value.ref.injEq, reduceCtorEq, false_or, or_false, List.not_mem_nil] at hv
    have hv : @Eq Nat r t := hv
    show @LT.lt Nat _ r w.1
    omega
  have x1 : kx w w1 0 (fun k => k = o) := by rw [ew1]; exact x0.up _ (by omega)
  refine ⟨w1, ?_, x1, g1_o, f1⟩
  refine fa_K.of (by decide) (by omega) f0 (Nat.le_of_ble_eq_true rfl) (fun p l e s m args below meth c g0 ls C hin Z hl => ?_)
  obtain ⟨_, hin1, hin2⟩ := hin
  have hin : meth.name = "<init>" := hin2.trans (hin1.symm.trans rfl)
  skip
  have eo : fw_ad g0 o = fw_ad g0 o := rfl
  have et : fw_ad g0 t = fw_ad g0 t := rfl
  refine lv_aload_n C.1 C.2.1 dX0_init_0 rfl (lv_at hl 0 rfl) ?_
  refine fx_obj C dX0_init_1 (okm (i := 171) rfl rfl) (okm (i := 50) rfl rfl) (okm (i := 51) rfl rfl) hl.1 (Nat.le_of_ble_eq_true rfl) (by decide) ?_
  refine lv_aload_n C.1 C.2.1 dX0_init_4 rfl (lv_at hl 0 rfl) ?_
  refine lv_aload_n C.1 C.2.1 dX0_init_5 rfl (lv_at hl 1 rfl) ?_
  refine fx_putF C hin Z gX0_init_6 (fs' := [.ref t]) g0_o eo et (by omega) (by simp) rfl (fun H locs Z => ?_)
  rw [← ew1] at Z
  exact fx_ret C Z rfl dX0_init_9 rfl (by decide) (by decide)
theorem c_X5_init {o N : Nat} {w : fw_S} (g0_o : fw_g w o (.inl (5, [.null]))) (n0 : w.1 = N) (f0 : fw_wf w) : ∃ w', fa_K 1 1 10 mX5_init [.ref o] w w' ∧ kx w w' 1 (fun k => k = o) ∧ fw_g w' o (.inl (5, [.ref N])) ∧ fw_g w' N (.inr (10, .inl (fun _ => 0))) ∧ fw_wf w' := by
  have x0 : kx w w 0 (fun k => k = o) := kx.rf
  have oN : o < N := by have := g0_o.1; omega
  obtain ⟨w1, ew1⟩ : ∃ x, x = fw_push w (.inr (10, .inl (fun _ => 0))) := ⟨_, rfl⟩
  have g1_o : fw_g w1 o (.inl (5, [.null])) := by rw [ew1]; exact fw_g.push g0_o
  have g1_N : fw_g w1 N (.inr (10, .inl (fun _ => 0))) := by rw [ew1, ← n0]; exact fw_g.new
  have n1 : w1.1 = (N + 1) := by rw [ew1]; show w.1 + 1 = _; omega
  have f1 : fw_wf w1 := by rw [ew1]; exact f0.push trivial
  have x1 : kx w w1 1 (fun k => k = o) := by rw [ew1]; exact x0.push _
  obtain ⟨w2, ew2⟩ : ∃ x, x = fw_up w1 o (.inl (5, [.ref N])) := ⟨_, rfl⟩
  have g2_N : fw_g w2 N (.inr (10, .inl (fun _ => 0))) := by rw [ew2]; exact g1_N.ne _ (by omega)
  have g2_o : fw_g w2 o (.inl (5, [.ref N])) := by rw [ew2]; exact g1_o.up _
  have n2 : w2.1 = (N + 1) := by rw [ew2]; exact n1
  have f2 : fw_wf w2 := by
    rw [ew2]
    refine fw_up_wf f1 (fun v hv r hr => ?_)
    subst hr
    simp only [List.mem_cons, Value.ref.injEq, reduceCtorEq, false_or, or_false, List.not_mem_nil] at hv
    have hv : @Eq Nat r N := hv
    show @LT.lt Nat _ r w1.1
    omega
  have x2 : kx w w2 1 (fun k => k = o) := by rw [ew2]; exact x1.up _ (by omega)
  refine ⟨w2, ?_, x2, g2_o, g2_N, f2⟩
  refine fa_K.of (by decide) (by omega) f0 (Nat.le_of_ble_eq_true rfl) (fun p l e s m args below meth c g0 ls C hin Z hl => ?_)
  obtain ⟨_, hin1, hin2⟩ := hin
  have hin : meth.name = "<init>" := hin2.trans (hin1.symm.trans rfl)
  skip
  have eo : fw_ad g0 o = fw_ad g0 o := rfl
  refine lv_aload_n C.1 C.2.1 dX5_init_0 rfl (lv_at hl 0 rfl) ?_
  refine fx_obj C dX5_init_1 (okm (i := 181) rfl rfl) (okm (i := 50) rfl rfl) (okm (i := 51) rfl rfl) hl.1 (Nat.le_of_ble_eq_true rfl) (by decide) ?_
  refine lv_aload_n C.1 C.2.1 dX5_init_4 rfl (lv_at hl 0 rfl) ?_
  refine lv_bipush (v := iI ((10 : Nat) : Int)) C.1 C.2.1 dX5_init_5 (by decide) ?_
  refine fx_newaI C Z rfl (okm (i := 75) rfl rfl) 10 (by decide) dX5_init_7 (by decide) (by decide) (fun ad q1 H ha hq Z => ?_)
  rw [← ew1] at Z
  rw [n0] at hq
  have eo := (ha o (by omega)).trans eo
  have e1 := hq
  refine fx_putF C hin Z gX5_init_9 (fs' := [.ref N]) g1_o eo e1 (by omega) (by simp) rfl (fun H locs Z => ?_)
  rw [← ew2] at Z
  exact fx_ret C Z rfl dX5_init_12 rfl (by decide) (by decide)
