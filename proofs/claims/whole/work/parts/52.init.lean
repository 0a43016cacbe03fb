/-! the constructors: what they ask, and their contracts -/
abbrev mL_law : fw_M := (yL_law, cL_law, 4, some .boolean)
set_option maxRecDepth 20000 in
theorem kx.rf {w : fw_S} {X : Nat → Prop} : kx w w 0 X := ⟨rfl, fun _ _ _ => rfl⟩
set_option maxRecDepth 20000 in
theorem kx.push {w w0 : fw_S} {n : Nat} {X : Nat → Prop} (h : kx w w0 n X) (e : fw_E) : kx w (fw_push w0 e) (n + 1) X := ⟨by show w0.1 + 1 = _; rw [h.1]; rfl, fun k hk hX => by
  have := h.1
  exact (if_neg (by omega)).trans (h.2 k hk hX)⟩
set_option maxRecDepth 20000 in
theorem kx.up {w w0 : fw_S} {n k0 : Nat} {X : Nat → Prop} (h : kx w w0 n X) (e : fw_E) (hk0 : X k0 ∨ w.1 ≤ k0) : kx w (fw_up w0 k0 e) n X := ⟨h.1, fun k hk hX => by
  have h2 : k ≠ k0 := by
    intro q; subst q
    rcases hk0 with h3 | h3
    · exact hX h3
    · omega
  exact (fw_up_ne w0 e h2).trans (h.2 k hk hX)⟩
set_option maxRecDepth 20000 in
theorem kx.kp {w w0 w1 : fw_S} {n : Nat} {X Y : Nat → Prop} (h : kx w w0 n X) (hk : kp w0 w1 Y) (hY : ∀ k, Y k → X k ∨ w.1 ≤ k) : kx w w1 n X := ⟨hk.1.trans h.1, fun k hk1 hX => by
  have h2 : ¬ Y k := by
    intro q
    rcases hY k q with h3 | h3
    · exact hX h3
    · omega
  exact (hk.2 k h2).trans (h.2 k hk1 hX)⟩
set_option maxRecDepth 20000 in
theorem kx.kx {w w0 w1 : fw_S} {n n' : Nat} {X Y : Nat → Prop} (h : kx w w0 n X) (h' : kx w0 w1 n' Y) (hY : ∀ k, Y k → X k ∨ w.1 ≤ k) : kx w w1 (n + n') X := ⟨by rw [h'.1, h.1, Nat.add_assoc], fun k hk1 hX => by
  have h2 : ¬ Y k := by
    intro q
    rcases hY k q with h3 | h3
    · exact hX h3
    · omega
  have h3 := h.1
  exact (h'.2 k (by omega) h2).trans (h.2 k hk1 hX)⟩
set_option maxRecDepth 20000 in
theorem d1_f {f : Nat → Int} (df : ∀ k, k < 36 → f k = if k / 6 = k % 6 then 0 else 1) (i j : Nat) (hi : i < 2) (hj : j < 2) : f (6 * i + j) = D1 i j := by
  rw [df _ (by omega)]
  unfold D1
  by_cases q : i = j
  · rw [if_pos q, if_pos (by omega)]
  · rw [if_neg q, if_neg (by omega)]
set_option maxRecDepth 20000 in
theorem gX6_init_9 : fk_putG mX6_init 9 6 0 := ⟨9, RX6, TX6, 2, tyX6, _, dX6_init_9, rfl, inX6, by decide, rfl, rfl, (okm (i := 62) rfl rfl), tyX6_ok, nmX6, rfl, rfl, fun _ => rfl, fun _ => rfl⟩
set_option maxRecDepth 20000 in
theorem gX1_init_9 : fk_putG mX1_init 9 1 1 := ⟨11, RX1, TX1, 4, tyX1, _, dX1_init_9, rfl, inX1, by decide, rfl, rfl, (okm (i := 83) rfl rfl), tyX1_ok, nmX1, rfl, rfl, fun _ => rfl, fun _ => rfl⟩
set_option maxRecDepth 20000 in
theorem gX1_init_14 : fk_putG mX1_init 14 1 0 := ⟨15, RX1, TX1, 4, tyX1, _, dX1_init_14, rfl, inX1, by decide, rfl, rfl, (okm (i := 82) rfl rfl), tyX1_ok, nmX1, rfl, rfl, fun _ => rfl, fun _ => rfl⟩
set_option maxRecDepth 20000 in
theorem gX3_init_9 : fk_putG mX3_init 9 3 1 := ⟨9, RX3, TX3, 2, tyX3, _, dX3_init_9, rfl, inX3, by decide, rfl, rfl, (okm (i := 105) rfl rfl), tyX3_ok, nmX3, rfl, rfl, fun _ => rfl, fun _ => rfl⟩
set_option maxRecDepth 20000 in
theorem gX3_init_14 : fk_putG mX3_init 14 3 0 := ⟨15, RX3, TX3, 2, tyX3, _, dX3_init_14, rfl, inX3, by decide, rfl, rfl, (okm (i := 104) rfl rfl), tyX3_ok, nmX3, rfl, rfl, fun _ => rfl, fun _ => rfl⟩
set_option maxRecDepth 20000 in
theorem iX4_init_9 : fk_I mX4_init mX6_init 9 0 := ⟨11, "", dX4_init_9, Or.inl (okm (i := 119) rfl rfl), (okm (i := 55) rfl rfl), (okm (i := 34) rfl rfl), (okm (i := 56) rfl rfl), rfl, rfl, ⟨by decide, by decide, rfl⟩, by decide⟩
set_option maxRecDepth 20000 in
theorem gX4_init_12 : fk_putG mX4_init 12 4 1 := ⟨12, RX4, TX4, 4, tyX4, _, dX4_init_12, rfl, inX4, by decide, rfl, rfl, (okm (i := 123) rfl rfl), tyX4_ok, nmX4, rfl, rfl, fun _ => rfl, fun _ => rfl⟩
set_option maxRecDepth 20000 in
theorem iX4_init_24 : fk_I mX4_init mX1_init 24 1 := ⟨20, "", dX4_init_24, Or.inl (okm (i := 121) rfl rfl), (okm (i := 79) rfl rfl), (okm (i := 35) rfl rfl), (okm (i := 80) rfl rfl), rfl, rfl, ⟨by decide, by decide, rfl⟩, by decide⟩
set_option maxRecDepth 20000 in
theorem gX4_init_27 : fk_putG mX4_init 27 4 2 := ⟨23, RX4, TX4, 4, tyX4, _, dX4_init_27, rfl, inX4, by decide, rfl, rfl, (okm (i := 125) rfl rfl), tyX4_ok, nmX4, rfl, rfl, fun _ => rfl, fun _ => rfl⟩
set_option maxRecDepth 20000 in
theorem gX4_init_35 : fk_putG mX4_init 35 4 3 := ⟨27, RX4, TX4, 4, tyX4, _, dX4_init_35, rfl, inX4, by decide, rfl, rfl, (okm (i := 126) rfl rfl), tyX4_ok, nmX4, rfl, rfl, fun _ => rfl, fun _ => rfl⟩
set_option maxRecDepth 20000 in
theorem gX4_init_40 : fk_putG mX4_init 40 4 0 := ⟨31, RX4, TX4, 4, tyX4, _, dX4_init_40, rfl, inX4, by decide, rfl, rfl, (okm (i := 122) rfl rfl), tyX4_ok, nmX4, rfl, rfl, fun _ => rfl, fun _ => rfl⟩
set_option maxRecDepth 20000 in
theorem gX2_init_9 : fk_putG mX2_init 9 2 1 := ⟨9, RX2, TX2, 7, tyX2, _, dX2_init_9, rfl, inX2, by decide, rfl, rfl, (okm (i := 144) rfl rfl), tyX2_ok, nmX2, rfl, rfl, fun _ => rfl, fun _ => rfl⟩
set_option maxRecDepth 20000 in
theorem gX2_init_14 : fk_putG mX2_init 14 2 0 := ⟨15, RX2, TX2, 7, tyX2, _, dX2_init_14, rfl, inX2, by decide, rfl, rfl, (okm (i := 143) rfl rfl), tyX2_ok, nmX2, rfl, rfl, fun _ => rfl, fun _ => rfl⟩
set_option maxRecDepth 20000 in
theorem gX0_init_6 : fk_putG mX0_init 6 0 0 := ⟨9, RX0, TX0, 1, tyX0, _, dX0_init_6, rfl, inX0, by decide, rfl, rfl, (okm (i := 172) rfl rfl), tyX0_ok, nmX0, rfl, rfl, fun _ => rfl, fun _ => rfl⟩
set_option maxRecDepth 20000 in
theorem gX5_init_9 : fk_putG mX5_init 9 5 0 := ⟨9, RX5, TX5, 1, tyX5, _, dX5_init_9, rfl, inX5, by decide, rfl, rfl, (okm (i := 182) rfl rfl), tyX5_ok, nmX5, rfl, rfl, fun _ => rfl, fun _ => rfl⟩
set_option maxRecDepth 20000 in
theorem iX7_init_9 : fk_I mX7_init mX6_init 9 0 := ⟨11, "", dX7_init_9, Or.inl (okm (i := 54) rfl rfl), (okm (i := 55) rfl rfl), (okm (i := 34) rfl rfl), (okm (i := 56) rfl rfl), rfl, rfl, ⟨by decide, by decide, rfl⟩, by decide⟩
set_option maxRecDepth 20000 in
theorem gX7_init_12 : fk_putG mX7_init 12 7 0 := ⟨12, RX7, TX7, 7, tyX7, _, dX7_init_12, rfl, inX7, by decide, rfl, rfl, (okm (i := 187) rfl rfl), tyX7_ok, nmX7, rfl, rfl, fun _ => rfl, fun _ => rfl⟩
set_option maxRecDepth 20000 in
theorem iX7_init_24 : fk_I mX7_init mX1_init 24 1 := ⟨18, "", dX7_init_24, Or.inl (okm (i := 78) rfl rfl), (okm (i := 79) rfl rfl), (okm (i := 35) rfl rfl), (okm (i := 80) rfl rfl), rfl, rfl, ⟨by decide, by decide, rfl⟩, by decide⟩
set_option maxRecDepth 20000 in
theorem gX7_init_27 : fk_putG mX7_init 27 7 1 := ⟨21, RX7, TX7, 7, tyX7, _, dX7_init_27, rfl, inX7, by decide, rfl, rfl, (okm (i := 188) rfl rfl), tyX7_ok, nmX7, rfl, rfl, fun _ => rfl, fun _ => rfl⟩
set_option maxRecDepth 20000 in
theorem iX7_init_39 : fk_I mX7_init mX3_init 39 1 := ⟨27, "", dX7_init_39, Or.inl (okm (i := 100) rfl rfl), (okm (i := 101) rfl rfl), (okm (i := 36) rfl rfl), (okm (i := 102) rfl rfl), rfl, rfl, ⟨by decide, by decide, rfl⟩, by decide⟩
set_option maxRecDepth 20000 in
theorem gX7_init_42 : fk_putG mX7_init 42 7 2 := ⟨28, RX7, TX7, 7, tyX7, _, dX7_init_42, rfl, inX7, by decide, rfl, rfl, (okm (i := 189) rfl rfl), tyX7_ok, nmX7, rfl, rfl, fun _ => rfl, fun _ => rfl⟩
set_option maxRecDepth 20000 in
theorem iX7_init_54 : fk_I mX7_init mX4_init 54 1 := ⟨34, "", dX7_init_54, Or.inl (okm (i := 114) rfl rfl), (okm (i := 115) rfl rfl), (okm (i := 37) rfl rfl), (okm (i := 116) rfl rfl), rfl, rfl, ⟨by decide, by decide, rfl⟩, by decide⟩
set_option maxRecDepth 20000 in
theorem gX7_init_57 : fk_putG mX7_init 57 7 3 := ⟨35, RX7, TX7, 7, tyX7, _, dX7_init_57, rfl, inX7, by decide, rfl, rfl, (okm (i := 190) rfl rfl), tyX7_ok, nmX7, rfl, rfl, fun _ => rfl, fun _ => rfl⟩
set_option maxRecDepth 20000 in
theorem iX7_init_69 : fk_I mX7_init mX2_init 69 1 := ⟨41, "", dX7_init_69, Or.inl (okm (i := 139) rfl rfl), (okm (i := 140) rfl rfl), (okm (i := 38) rfl rfl), (okm (i := 141) rfl rfl), rfl, rfl, ⟨by decide, by decide, rfl⟩, by decide⟩
set_option maxRecDepth 20000 in
theorem gX7_init_72 : fk_putG mX7_init 72 7 4 := ⟨42, RX7, TX7, 7, tyX7, _, dX7_init_72, rfl, inX7, by decide, rfl, rfl, (okm (i := 191) rfl rfl), tyX7_ok, nmX7, rfl, rfl, fun _ => rfl, fun _ => rfl⟩
set_option maxRecDepth 20000 in
theorem iX7_init_84 : fk_I mX7_init mX0_init 84 1 := ⟨48, "", dX7_init_84, Or.inl (okm (i := 168) rfl rfl), (okm (i := 169) rfl rfl), (okm (i := 39) rfl rfl), (okm (i := 170) rfl rfl), rfl, rfl, ⟨by decide, by decide, rfl⟩, by decide⟩
set_option maxRecDepth 20000 in
theorem gX7_init_87 : fk_putG mX7_init 87 7 5 := ⟨49, RX7, TX7, 7, tyX7, _, dX7_init_87, rfl, inX7, by decide, rfl, rfl, (okm (i := 192) rfl rfl), tyX7_ok, nmX7, rfl, rfl, fun _ => rfl, fun _ => rfl⟩
set_option maxRecDepth 20000 in
theorem iX7_init_95 : fk_I mX7_init mX5_init 95 0 := ⟨55, "FewWays", dX7_init_95, Or.inr (fw_nm (i := 178) rfl rfl), (okm (i := 179) rfl rfl), (okm (i := 40) rfl rfl), (okm (i := 180) rfl rfl), rfl, rfl, ⟨by decide, by decide, rfl⟩, by decide⟩
set_option maxRecDepth 20000 in
theorem gX7_init_98 : fk_putG mX7_init 98 7 6 := ⟨56, RX7, TX7, 7, tyX7, _, dX7_init_98, rfl, inX7, by decide, rfl, rfl, (okm (i := 193) rfl rfl), tyX7_ok, nmX7, rfl, rfl, fun _ => rfl, fun _ => rfl⟩
set_option maxRecDepth 20000 in
theorem gX8_init_14 : fk_putG mX8_init 14 8 1 := ⟨13, RX8, TX8, 10, tyX8, _, dX8_init_14, rfl, inX8, by decide, rfl, rfl, (okm (i := 513) rfl rfl), tyX8_ok, nmX8, rfl, rfl, fun _ => rfl, fun _ => rfl⟩
set_option maxRecDepth 20000 in
theorem gX8_init_22 : fk_putG mX8_init 22 8 2 := ⟨17, RX8, TX8, 10, tyX8, _, dX8_init_22, rfl, inX8, by decide, rfl, rfl, (okm (i := 514) rfl rfl), tyX8_ok, nmX8, rfl, rfl, fun _ => rfl, fun _ => rfl⟩
set_option maxRecDepth 20000 in
theorem gX8_init_30 : fk_putG mX8_init 30 8 3 := ⟨20, RX8, TX8, 10, tyX8, _, dX8_init_30, rfl, inX8, by decide, rfl, rfl, (okm (i := 515) rfl rfl), tyX8_ok, nmX8, rfl, rfl, fun _ => rfl, fun _ => rfl⟩
set_option maxRecDepth 20000 in
theorem gX8_init_38 : fk_putG mX8_init 38 8 4 := ⟨23, RX8, TX8, 10, tyX8, _, dX8_init_38, rfl, inX8, by decide, rfl, rfl, (okm (i := 516) rfl rfl), tyX8_ok, nmX8, rfl, rfl, fun _ => rfl, fun _ => rfl⟩
set_option maxRecDepth 20000 in
theorem gX8_init_45 : fk_putG mX8_init 45 8 5 := ⟨26, RX8, TX8, 10, tyX8, _, dX8_init_45, rfl, inX8, by decide, rfl, rfl, (okm (i := 517) rfl rfl), tyX8_ok, nmX8, rfl, rfl, fun _ => rfl, fun _ => rfl⟩
set_option maxRecDepth 20000 in
theorem gX8_init_53 : fk_putG mX8_init 53 8 6 := ⟨29, RX8, TX8, 10, tyX8, _, dX8_init_53, rfl, inX8, by decide, rfl, rfl, (okm (i := 518) rfl rfl), tyX8_ok, nmX8, rfl, rfl, fun _ => rfl, fun _ => rfl⟩
set_option maxRecDepth 20000 in
theorem gX8_init_61 : fk_putG mX8_init 61 8 7 := ⟨33, RX8, TX8, 10, tyX8, _, dX8_init_61, rfl, inX8, by decide, rfl, rfl, (okm (i := 519) rfl rfl), tyX8_ok, nmX8, rfl, rfl, fun _ => rfl, fun _ => rfl⟩
set_option maxRecDepth 20000 in
theorem iL_law_4 : fk_I mL_law mX7_init 4 0 := ⟨9, "", dL_law_4, Or.inl (okm (i := 46) rfl rfl), (okm (i := 47) rfl rfl), (okm (i := 33) rfl rfl), (okm (i := 48) rfl rfl), rfl, rfl, ⟨by decide, by decide, rfl⟩, by decide⟩
set_option maxRecDepth 20000 in
theorem iL_law_12 : fk_I mL_law mX8_init 12 0 := ⟨12, "", dL_law_12, Or.inl (okm (i := 504) rfl rfl), (okm (i := 505) rfl rfl), (okm (i := 41) rfl rfl), (okm (i := 506) rfl rfl), rfl, rfl, ⟨by decide, by decide, rfl⟩, by decide⟩
set_option maxRecDepth 20000 in
theorem c_X6_init {o N : Nat} {w : fw_S} (g0_o : fw_g w o (.inl (6, [.null, .int 0]))) (n0 : w.1 = N) (f0 : fw_wf w) : ∃ w', fa_K 1 1 36 mX6_init [.ref o] w w' ∧ kx w w' 1 (fun k => k = o) ∧ tb w' o N 2 D1 ∧ fw_wf w' := by
  have x0 : kx w w 0 (fun k => k = o) := kx.rf
  have oN : o < N := by have := g0_o.1; omega
  obtain ⟨w1, ew1⟩ : ∃ x, x = fw_push w (.inr (36, .inl (fun _ => 0))) := ⟨_, rfl⟩
  have g1_o : fw_g w1 o (.inl (6, [.null, .int 0])) := by rw [ew1]; exact fw_g.push g0_o
  have g1_N : fw_g w1 N (.inr (36, .inl (fun _ => 0))) := by rw [ew1, ← n0]; exact fw_g.new
  have n1 : w1.1 = (N + 1) := by rw [ew1]; show w.1 + 1 = _; omega
  have f1 : fw_wf w1 := by rw [ew1]; exact f0.push trivial
  have x1 : kx w w1 1 (fun k => k = o) := by rw [ew1]; exact x0.push _
  obtain ⟨w2, ew2⟩ : ∃ x, x = fw_up w1 o (.inl (6, [.ref N, .int 0])) := ⟨_, rfl⟩
  have g2_N : fw_g w2 N (.inr (36, .inl (fun _ => 0))) := by rw [ew2]; exact g1_N.ne _ (by omega)
  have g2_o : fw_g w2 o (.inl (6, [.ref N, .int 0])) := by rw [ew2]; exact g1_o.up _
  have n2 : w2.1 = (N + 1) := by rw [ew2]; exact n1
  have f2 : fw_wf w2 := by
    rw [ew2]
    refine fw_up_wf f1 (fun v hv r hr => ?_)
    subst hr
    simp only [List.mem_cons, Value.ref.injEq, reduceCtorEq, false_or, or_false, List.not_mem_nil] at hv
    have hv : @Eq Nat r N := hv
    show @LT.lt Nat _ r w1.1
    omega
  have x2 : kx w w2 1 (fun k => k = o) := by rw [ew2]; exact x1.up _ (by omega)
  obtain ⟨w3, K3, t3, p3⟩ := c_reset (d := 0) (n := 2) g2_o g2_N (by omega)
  have n3 : w3.1 = (N + 1) := p3.1.trans n2
  have f3 : fw_wf w3 := by
    refine f2.kp p3 (fun k hk hk2 => ?_)
    rcases hk with rfl | rfl
    · rw [t3.1.2]
      intro v hv r hr
      subst hr
      simp only [List.mem_cons, Value.ref.injEq, reduceCtorEq, false_or, or_false, List.not_mem_nil] at hv
      have hv : @Eq Nat r N := hv
      show @LT.lt Nat _ r w2.1
      omega
    · obtain ⟨f, hf, -⟩ := t3.2.1
      rw [hf.2]; exact trivial
  have x3 : kx w w3 1 (fun k => k = o) := x2.kp p3 (fun k hk => by omega)
  refine ⟨w3, ?_, x3, t3, f3⟩
  refine fa_K.of (by decide) (by omega) f0 (Nat.le_of_ble_eq_true rfl) (fun p l e s m args below meth c g0 ls C hin Z hl => ?_)
  obtain ⟨_, hin1, hin2⟩ := hin
  have hin : meth.name = "<init>" := hin2.trans (hin1.symm.trans rfl)
  skip
  have eo : fw_ad g0 o = fw_ad g0 o := rfl
  refine lv_aload_n C.1 C.2.1 dX6_init_0 rfl (lv_at hl 0 rfl) ?_
  refine fx_obj C dX6_init_1 (okm (i := 57) rfl rfl) (okm (i := 50) rfl rfl) (okm (i := 51) rfl rfl) hl.1 (Nat.le_of_ble_eq_true rfl) (by decide) ?_
  refine lv_aload_n C.1 C.2.1 dX6_init_4 rfl (lv_at hl 0 rfl) ?_
  refine lv_bipush (v := iI ((36 : Nat) : Int)) C.1 C.2.1 dX6_init_5 (by decide) ?_
  refine fx_newaI C Z rfl (okm (i := 75) rfl rfl) 36 (by decide) dX6_init_7 (by decide) (by decide) (fun ad q1 H ha hq Z => ?_)
  rw [← ew1] at Z
  rw [n0] at hq
  have eo := (ha o (by omega)).trans eo
  have e1 := hq
  refine fx_putF C hin Z gX6_init_9 (fs' := [.ref N, .int 0]) g1_o eo e1 (by omega) (by simp) rfl (fun H locs Z => ?_)
  rw [← ew2] at Z
  refine lv_aload_n C.1 C.2.1 dX6_init_12 rfl (lv_at hl 0 rfl) ?_
  refine lv_iconst (v := iI ((2 : Nat) : Int)) C.1 C.2.1 dX6_init_13 (by decide) ?_
  refine fx_callV C Z (As' := []) kX6_init_14 K3 (by decide) g2_o rfl (fun _ => rfl) eo rfl (Nat.le_of_ble_eq_true rfl) hl.1 (Nat.le_trans (by decide) C.2.2.2.2.2.2.2.2.2.2.2.1) (Nat.le_trans (by decide) C.2.2.2.2.2.2.2.2.2.2.2.2) f3 (fun _ => rfl) (fun H locs Z => ?_)
  exact fx_ret C Z rfl dX6_init_17 rfl (by decide) (by decide)
set_option maxRecDepth 20000 in
theorem c_X1_init {o N t : Nat} {w : fw_S} (g0_o : fw_g w o (.inl (1, [.null, .null, .int 0, .int 0]))) (n0 : w.1 = N) (f0 : fw_wf w) (tN : t < N) : ∃ w', fa_K 1 1 6 mX1_init [.ref o, .ref t] w w' ∧ kx w w' 1 (fun k => k = o) ∧ fw_g w' o (.inl (1, [.ref t, .ref N, .int 0, .int 0])) ∧ fw_g w' N (.inr (6, .inl (fun _ => 0))) ∧ fw_wf w' := by
  have x0 : kx w w 0 (fun k => k = o) := kx.rf
  have oN : o < N := by have := g0_o.1; omega
  obtain ⟨w1, ew1⟩ : ∃ x, x = fw_push w (.inr (6, .inl (fun _ => 0))) := ⟨_, rfl⟩
  have g1_o : fw_g w1 o (.inl (1, [.null, .null, .int 0, .int 0])) := by rw [ew1]; exact fw_g.push g0_o
  have g1_N : fw_g w1 N (.inr (6, .inl (fun _ => 0))) := by rw [ew1, ← n0]; exact fw_g.new
  have n1 : w1.1 = (N + 1) := by rw [ew1]; show w.1 + 1 = _; omega
  have f1 : fw_wf w1 := by rw [ew1]; exact f0.push trivial
  have x1 : kx w w1 1 (fun k => k = o) := by rw [ew1]; exact x0.push _
  obtain ⟨w2, ew2⟩ : ∃ x, x = fw_up w1 o (.inl (1, [.null, .ref N, .int 0, .int 0])) := ⟨_, rfl⟩
  have g2_N : fw_g w2 N (.inr (6, .inl (fun _ => 0))) := by rw [ew2]; exact g1_N.ne _ (by omega)
  have g2_o : fw_g w2 o (.inl (1, [.null, .ref N, .int 0, .int 0])) := by rw [ew2]; exact g1_o.up _
  have n2 : w2.1 = (N + 1) := by rw [ew2]; exact n1
  have f2 : fw_wf w2 := by
    rw [ew2]
    refine fw_up_wf f1 (fun v hv r hr => ?_)
    subst hr
    simp only [List.mem_cons, Value.ref.injEq, reduceCtorEq, false_or, or_false, List.not_mem_nil] at hv
    have hv : @Eq Nat r N := hv
    show @LT.lt Nat _ r w1.1
    omega
  have x2 : kx w w2 1 (fun k => k = o) := by rw [ew2]; exact x1.up _ (by omega)
  obtain ⟨w3, ew3⟩ : ∃ x, x = fw_up w2 o (.inl (1, [.ref t, .ref N, .int 0, .int 0])) := ⟨_, rfl⟩
  have g3_N : fw_g w3 N (.inr (6, .inl (fun _ => 0))) := by rw [ew3]; exact g2_N.ne _ (by omega)
  have g3_o : fw_g w3 o (.inl (1, [.ref t, .ref N, .int 0, .int 0])) := by rw [ew3]; exact g2_o.up _
  have n3 : w3.1 = (N + 1) := by rw [ew3]; exact n2
  have f3 : fw_wf w3 := by
    rw [ew3]
    refine fw_up_wf f2 (fun v hv r hr => ?_)
    subst hr
    simp only [List.mem_cons, Value.ref.injEq, reduceCtorEq, false_or, or_false, List.not_mem_nil] at hv
    have hv : @Eq Nat r t ∨ @Eq Nat r N := hv
    show @LT.lt Nat _ r w2.1
    omega
  have x3 : kx w w3 1 (fun k => k = o) := by rw [ew3]; exact x2.up _ (by omega)
  refine ⟨w3, ?_, x3, g3_o, g3_N, f3⟩
  refine fa_K.of (by decide) (by omega) f0 (Nat.le_of_ble_eq_true rfl) (fun p l e s m args below meth c g0 ls C hin Z hl => ?_)
  obtain ⟨_, hin1, hin2⟩ := hin
  have hin : meth.name = "<init>" := hin2.trans (hin1.symm.trans rfl)
  skip
  have eo : fw_ad g0 o = fw_ad g0 o := rfl
  have et : fw_ad g0 t = fw_ad g0 t := rfl
  refine lv_aload_n C.1 C.2.1 dX1_init_0 rfl (lv_at hl 0 rfl) ?_
  refine fx_obj C dX1_init_1 (okm (i := 81) rfl rfl) (okm (i := 50) rfl rfl) (okm (i := 51) rfl rfl) hl.1 (Nat.le_of_ble_eq_true rfl) (by decide) ?_
  refine lv_aload_n C.1 C.2.1 dX1_init_4 rfl (lv_at hl 0 rfl) ?_
  refine lv_bipush (v := iI ((6 : Nat) : Int)) C.1 C.2.1 dX1_init_5 (by decide) ?_
  refine fx_newaI C Z rfl (okm (i := 75) rfl rfl) 6 (by decide) dX1_init_7 (by decide) (by decide) (fun ad q1 H ha hq Z => ?_)
  rw [← ew1] at Z
  rw [n0] at hq
  have eo := (ha o (by omega)).trans eo
  have et := (ha t (by omega)).trans et
  have e1 := hq
  refine fx_putF C hin Z gX1_init_9 (fs' := [.null, .ref N, .int 0, .int 0]) g1_o eo e1 (by omega) (by simp) rfl (fun H locs Z => ?_)
  rw [← ew2] at Z
  refine lv_aload_n C.1 C.2.1 dX1_init_12 rfl (lv_at hl 0 rfl) ?_
  refine lv_aload_n C.1 C.2.1 dX1_init_13 rfl (lv_at hl 1 rfl) ?_
  refine fx_putF C hin Z gX1_init_14 (fs' := [.ref t, .ref N, .int 0, .int 0]) g2_o eo et (by omega) (by simp) rfl (fun H locs Z => ?_)
  rw [← ew3] at Z
  exact fx_ret C Z rfl dX1_init_17 rfl (by decide) (by decide)
set_option maxRecDepth 20000 in
theorem c_X3_init {o N t : Nat} {w : fw_S} (g0_o : fw_g w o (.inl (3, [.null, .null]))) (n0 : w.1 = N) (f0 : fw_wf w) (tN : t < N) : ∃ w', fa_K 1 1 32 mX3_init [.ref o, .ref t] w w' ∧ kx w w' 1 (fun k => k = o) ∧ fw_g w' o (.inl (3, [.ref t, .ref N])) ∧ fw_g w' N (.inr (32, .inr (fun _ => 0))) ∧ fw_wf w' := by
  have x0 : kx w w 0 (fun k => k = o) := kx.rf
  have oN : o < N := by have := g0_o.1; omega
  obtain ⟨w1, ew1⟩ : ∃ x, x = fw_push w (.inr (32, .inr (fun _ => 0))) := ⟨_, rfl⟩
  have g1_o : fw_g w1 o (.inl (3, [.null, .null])) := by rw [ew1]; exact fw_g.push g0_o
  have g1_N : fw_g w1 N (.inr (32, .inr (fun _ => 0))) := by rw [ew1, ← n0]; exact fw_g.new
  have n1 : w1.1 = (N + 1) := by rw [ew1]; show w.1 + 1 = _; omega
  have f1 : fw_wf w1 := by rw [ew1]; exact f0.push trivial
  have x1 : kx w w1 1 (fun k => k = o) := by rw [ew1]; exact x0.push _
  obtain ⟨w2, ew2⟩ : ∃ x, x = fw_up w1 o (.inl (3, [.null, .ref N])) := ⟨_, rfl⟩
  have g2_N : fw_g w2 N (.inr (32, .inr (fun _ => 0))) := by rw [ew2]; exact g1_N.ne _ (by omega)
  have g2_o : fw_g w2 o (.inl (3, [.null, .ref N])) := by rw [ew2]; exact g1_o.up _
  have n2 : w2.1 = (N + 1) := by rw [ew2]; exact n1
  have f2 : fw_wf w2 := by
    rw [ew2]
    refine fw_up_wf f1 (fun v hv r hr => ?_)
    subst hr
    simp only [List.mem_cons, Value.ref.injEq, reduceCtorEq, false_or, or_false, List.not_mem_nil] at hv
    have hv : @Eq Nat r N := hv
    show @LT.lt Nat _ r w1.1
    omega
  have x2 : kx w w2 1 (fun k => k = o) := by rw [ew2]; exact x1.up _ (by omega)
  obtain ⟨w3, ew3⟩ : ∃ x, x = fw_up w2 o (.inl (3, [.ref t, .ref N])) := ⟨_, rfl⟩
  have g3_N : fw_g w3 N (.inr (32, .inr (fun _ => 0))) := by rw [ew3]; exact g2_N.ne _ (by omega)
  have g3_o : fw_g w3 o (.inl (3, [.ref t, .ref N])) := by rw [ew3]; exact g2_o.up _
  have n3 : w3.1 = (N + 1) := by rw [ew3]; exact n2
  have f3 : fw_wf w3 := by
    rw [ew3]
    refine fw_up_wf f2 (fun v hv r hr => ?_)
    subst hr
    simp only [List.mem_cons, Value.ref.injEq, reduceCtorEq, false_or, or_false, List.not_mem_nil] at hv
    have hv : @Eq Nat r t ∨ @Eq Nat r N := hv
    show @LT.lt Nat _ r w2.1
    omega
  have x3 : kx w w3 1 (fun k => k = o) := by rw [ew3]; exact x2.up _ (by omega)
  refine ⟨w3, ?_, x3, g3_o, g3_N, f3⟩
  refine fa_K.of (by decide) (by omega) f0 (Nat.le_of_ble_eq_true rfl) (fun p l e s m args below meth c g0 ls C hin Z hl => ?_)
  obtain ⟨_, hin1, hin2⟩ := hin
  have hin : meth.name = "<init>" := hin2.trans (hin1.symm.trans rfl)
  skip
  have eo : fw_ad g0 o = fw_ad g0 o := rfl
  have et : fw_ad g0 t = fw_ad g0 t := rfl
  refine lv_aload_n C.1 C.2.1 dX3_init_0 rfl (lv_at hl 0 rfl) ?_
  refine fx_obj C dX3_init_1 (okm (i := 103) rfl rfl) (okm (i := 50) rfl rfl) (okm (i := 51) rfl rfl) hl.1 (Nat.le_of_ble_eq_true rfl) (by decide) ?_
  refine lv_aload_n C.1 C.2.1 dX3_init_4 rfl (lv_at hl 0 rfl) ?_
  refine lv_bipush (v := iI ((32 : Nat) : Int)) C.1 C.2.1 dX3_init_5 (by decide) ?_
  refine fx_newaJ C Z rfl (okm (i := 111) rfl rfl) 32 (by decide) dX3_init_7 (by decide) (by decide) (fun ad q1 H ha hq Z => ?_)
  rw [← ew1] at Z
  rw [n0] at hq
  have eo := (ha o (by omega)).trans eo
  have et := (ha t (by omega)).trans et
  have e1 := hq
  refine fx_putF C hin Z gX3_init_9 (fs' := [.null, .ref N]) g1_o eo e1 (by omega) (by simp) rfl (fun H locs Z => ?_)
  rw [← ew2] at Z
  refine lv_aload_n C.1 C.2.1 dX3_init_12 rfl (lv_at hl 0 rfl) ?_
  refine lv_aload_n C.1 C.2.1 dX3_init_13 rfl (lv_at hl 1 rfl) ?_
  refine fx_putF C hin Z gX3_init_14 (fs' := [.ref t, .ref N]) g2_o eo et (by omega) (by simp) rfl (fun H locs Z => ?_)
  rw [← ew3] at Z
  exact fx_ret C Z rfl dX3_init_17 rfl (by decide) (by decide)
set_option maxRecDepth 20000 in
theorem c_X2_init {o N t : Nat} {w : fw_S} (g0_o : fw_g w o (.inl (2, [.null, .null, .int 0, .int 0, .int 0, .int 0, .int 0]))) (n0 : w.1 = N) (f0 : fw_wf w) (tN : t < N) : ∃ w', fa_K 1 1 6 mX2_init [.ref o, .ref t] w w' ∧ kx w w' 1 (fun k => k = o) ∧ fw_g w' o (.inl (2, [.ref t, .ref N, .int 0, .int 0, .int 0, .int 0, .int 0])) ∧ fw_g w' N (.inr (6, .inl (fun _ => 0))) ∧ fw_wf w' := by
  have x0 : kx w w 0 (fun k => k = o) := kx.rf
  have oN : o < N := by have := g0_o.1; omega
  obtain ⟨w1, ew1⟩ : ∃ x, x = fw_push w (.inr (6, .inl (fun _ => 0))) := ⟨_, rfl⟩
  have g1_o : fw_g w1 o (.inl (2, [.null, .null, .int 0, .int 0, .int 0, .int 0, .int 0])) := by rw [ew1]; exact fw_g.push g0_o
  have g1_N : fw_g w1 N (.inr (6, .inl (fun _ => 0))) := by rw [ew1, ← n0]; exact fw_g.new
  have n1 : w1.1 = (N + 1) := by rw [ew1]; show w.1 + 1 = _; omega
  have f1 : fw_wf w1 := by rw [ew1]; exact f0.push trivial
  have x1 : kx w w1 1 (fun k => k = o) := by rw [ew1]; exact x0.push _
  obtain ⟨w2, ew2⟩ : ∃ x, x = fw_up w1 o (.inl (2, [.null, .ref N, .int 0, .int 0, .int 0, .int 0, .int 0])) := ⟨_, rfl⟩
  have g2_N : fw_g w2 N (.inr (6, .inl (fun _ => 0))) := by rw [ew2]; exact g1_N.ne _ (by omega)
  have g2_o : fw_g w2 o (.inl (2, [.null, .ref N, .int 0, .int 0, .int 0, .int 0, .int 0])) := by rw [ew2]; exact g1_o.up _
  have n2 : w2.1 = (N + 1) := by rw [ew2]; exact n1
  have f2 : fw_wf w2 := by
    rw [ew2]
    refine fw_up_wf f1 (fun v hv r hr => ?_)
    subst hr
    simp only [List.mem_cons, Value.ref.injEq, reduceCtorEq, false_or, or_false, List.not_mem_nil] at hv
    have hv : @Eq Nat r N := hv
    show @LT.lt Nat _ r w1.1
    omega
  have x2 : kx w w2 1 (fun k => k = o) := by rw [ew2]; exact x1.up _ (by omega)
  obtain ⟨w3, ew3⟩ : ∃ x, x = fw_up w2 o (.inl (2, [.ref t, .ref N, .int 0, .int 0, .int 0, .int 0, .int 0])) := ⟨_, rfl⟩
  have g3_N : fw_g w3 N (.inr (6, .inl (fun _ => 0))) := by rw [ew3]; exact g2_N.ne _ (by omega)
  have g3_o : fw_g w3 o (.inl (2, [.ref t, .ref N, .int 0, .int 0, .int 0, .int 0, .int 0])) := by rw [ew3]; exact g2_o.up _
  have n3 : w3.1 = (N + 1) := by rw [ew3]; exact n2
  have f3 : fw_wf w3 := by
    rw [ew3]
    refine fw_up_wf f2 (fun v hv r hr => ?_)
    subst hr
    simp only [List.mem_cons, Value.ref.injEq, reduceCtorEq, false_or, or_false, List.not_mem_nil] at hv
    have hv : @Eq Nat r t ∨ @Eq Nat r N := hv
    show @LT.lt Nat _ r w2.1
    omega
  have x3 : kx w w3 1 (fun k => k = o) := by rw [ew3]; exact x2.up _ (by omega)
  refine ⟨w3, ?_, x3, g3_o, g3_N, f3⟩
  refine fa_K.of (by decide) (by omega) f0 (Nat.le_of_ble_eq_true rfl) (fun p l e s m args below meth c g0 ls C hin Z hl => ?_)
  obtain ⟨_, hin1, hin2⟩ := hin
  have hin : meth.name = "<init>" := hin2.trans (hin1.symm.trans rfl)
  skip
  have eo : fw_ad g0 o = fw_ad g0 o := rfl
  have et : fw_ad g0 t = fw_ad g0 t := rfl
  refine lv_aload_n C.1 C.2.1 dX2_init_0 rfl (lv_at hl 0 rfl) ?_
  refine fx_obj C dX2_init_1 (okm (i := 142) rfl rfl) (okm (i := 50) rfl rfl) (okm (i := 51) rfl rfl) hl.1 (Nat.le_of_ble_eq_true rfl) (by decide) ?_
  refine lv_aload_n C.1 C.2.1 dX2_init_4 rfl (lv_at hl 0 rfl) ?_
  refine lv_bipush (v := iI ((6 : Nat) : Int)) C.1 C.2.1 dX2_init_5 (by decide) ?_
  refine fx_newaI C Z rfl (okm (i := 75) rfl rfl) 6 (by decide) dX2_init_7 (by decide) (by decide) (fun ad q1 H ha hq Z => ?_)
  rw [← ew1] at Z
  rw [n0] at hq
  have eo := (ha o (by omega)).trans eo
  have et := (ha t (by omega)).trans et
  have e1 := hq
  refine fx_putF C hin Z gX2_init_9 (fs' := [.null, .ref N, .int 0, .int 0, .int 0, .int 0, .int 0]) g1_o eo e1 (by omega) (by simp) rfl (fun H locs Z => ?_)
  rw [← ew2] at Z
  refine lv_aload_n C.1 C.2.1 dX2_init_12 rfl (lv_at hl 0 rfl) ?_
  refine lv_aload_n C.1 C.2.1 dX2_init_13 rfl (lv_at hl 1 rfl) ?_
  refine fx_putF C hin Z gX2_init_14 (fs' := [.ref t, .ref N, .int 0, .int 0, .int 0, .int 0, .int 0]) g2_o eo et (by omega) (by simp) rfl (fun H locs Z => ?_)
  rw [← ew3] at Z
  exact fx_ret C Z rfl dX2_init_17 rfl (by decide) (by decide)
set_option maxRecDepth 20000 in
theorem c_X0_init {o N t : Nat} {w : fw_S} (g0_o : fw_g w o (.inl (0, [.null]))) (n0 : w.1 = N) (f0 : fw_wf w) (tN : t < N) : ∃ w', fa_K 1 0 0 mX0_init [.ref o, .ref t] w w' ∧ kx w w' 0 (fun k => k = o) ∧ fw_g w' o (.inl (0, [.ref t])) ∧ fw_wf w' := by
  have x0 : kx w w 0 (fun k => k = o) := kx.rf
  have oN : o < N := by have := g0_o.1; omega
  obtain ⟨w1, ew1⟩ : ∃ x, x = fw_up w o (.inl (0, [.ref t])) := ⟨_, rfl⟩
  have g1_o : fw_g w1 o (.inl (0, [.ref t])) := by rw [ew1]; exact g0_o.up _
  have n1 : w1.1 = N := by rw [ew1]; exact n0
  have f1 : fw_wf w1 := by
    rw [ew1]
    refine fw_up_wf f0 (fun v hv r hr => ?_)
    subst hr
    simp only [List.mem_cons, Value.ref.injEq, reduceCtorEq, false_or, or_false, List.not_mem_nil] at hv
    have hv : @Eq Nat r t := hv
    show @LT.lt Nat _ r w.1
    omega
  have x1 : kx w w1 0 (fun k => k = o) := by rw [ew1]; exact x0.up _ (by omega)
  refine ⟨w1, ?_, x1, g1_o, f1⟩
  refine fa_K.of (by decide) (by omega) f0 (Nat.le_of_ble_eq_true rfl) (fun p l e s m args below meth c g0 ls C hin Z hl => ?_)
  obtain ⟨_, hin1, hin2⟩ := hin
  have hin : meth.name = "<init>" := hin2.trans (hin1.symm.trans rfl)
  skip
  have eo : fw_ad g0 o = fw_ad g0 o := rfl
  have et : fw_ad g0 t = fw_ad g0 t := rfl
  refine lv_aload_n C.1 C.2.1 dX0_init_0 rfl (lv_at hl 0 rfl) ?_
  refine fx_obj C dX0_init_1 (okm (i := 171) rfl rfl) (okm (i := 50) rfl rfl) (okm (i := 51) rfl rfl) hl.1 (Nat.le_of_ble_eq_true rfl) (by decide) ?_
  refine lv_aload_n C.1 C.2.1 dX0_init_4 rfl (lv_at hl 0 rfl) ?_
  refine lv_aload_n C.1 C.2.1 dX0_init_5 rfl (lv_at hl 1 rfl) ?_
  refine fx_putF C hin Z gX0_init_6 (fs' := [.ref t]) g0_o eo et (by omega) (by simp) rfl (fun H locs Z => ?_)
  rw [← ew1] at Z
  exact fx_ret C Z rfl dX0_init_9 rfl (by decide) (by decide)
set_option maxRecDepth 20000 in
theorem c_X5_init {o N : Nat} {w : fw_S} (g0_o : fw_g w o (.inl (5, [.null]))) (n0 : w.1 = N) (f0 : fw_wf w) : ∃ w', fa_K 1 1 10 mX5_init [.ref o] w w' ∧ kx w w' 1 (fun k => k = o) ∧ fw_g w' o (.inl (5, [.ref N])) ∧ fw_g w' N (.inr (10, .inl (fun _ => 0))) ∧ fw_wf w' := by
  have x0 : kx w w 0 (fun k => k = o) := kx.rf
  have oN : o < N := by have := g0_o.1; omega
  obtain ⟨w1, ew1⟩ : ∃ x, x = fw_push w (.inr (10, .inl (fun _ => 0))) := ⟨_, rfl⟩
  have g1_o : fw_g w1 o (.inl (5, [.null])) := by rw [ew1]; exact fw_g.push g0_o
  have g1_N : fw_g w1 N (.inr (10, .inl (fun _ => 0))) := by rw [ew1, ← n0]; exact fw_g.new
  have n1 : w1.1 = (N + 1) := by rw [ew1]; show w.1 + 1 = _; omega
  have f1 : fw_wf w1 := by rw [ew1]; exact f0.push trivial
  have x1 : kx w w1 1 (fun k => k = o) := by rw [ew1]; exact x0.push _
  obtain ⟨w2, ew2⟩ : ∃ x, x = fw_up w1 o (.inl (5, [.ref N])) := ⟨_, rfl⟩
  have g2_N : fw_g w2 N (.inr (10, .inl (fun _ => 0))) := by rw [ew2]; exact g1_N.ne _ (by omega)
  have g2_o : fw_g w2 o (.inl (5, [.ref N])) := by rw [ew2]; exact g1_o.up _
  have n2 : w2.1 = (N + 1) := by rw [ew2]; exact n1
  have f2 : fw_wf w2 := by
    rw [ew2]
    refine fw_up_wf f1 (fun v hv r hr => ?_)
    subst hr
    simp only [List.mem_cons, Value.ref.injEq, reduceCtorEq, false_or, or_false, List.not_mem_nil] at hv
    have hv : @Eq Nat r N := hv
    show @LT.lt Nat _ r w1.1
    omega
  have x2 : kx w w2 1 (fun k => k = o) := by rw [ew2]; exact x1.up _ (by omega)
  refine ⟨w2, ?_, x2, g2_o, g2_N, f2⟩
  refine fa_K.of (by decide) (by omega) f0 (Nat.le_of_ble_eq_true rfl) (fun p l e s m args below meth c g0 ls C hin Z hl => ?_)
  obtain ⟨_, hin1, hin2⟩ := hin
  have hin : meth.name = "<init>" := hin2.trans (hin1.symm.trans rfl)
  skip
  have eo : fw_ad g0 o = fw_ad g0 o := rfl
  refine lv_aload_n C.1 C.2.1 dX5_init_0 rfl (lv_at hl 0 rfl) ?_
  refine fx_obj C dX5_init_1 (okm (i := 181) rfl rfl) (okm (i := 50) rfl rfl) (okm (i := 51) rfl rfl) hl.1 (Nat.le_of_ble_eq_true rfl) (by decide) ?_
  refine lv_aload_n C.1 C.2.1 dX5_init_4 rfl (lv_at hl 0 rfl) ?_
  refine lv_bipush (v := iI ((10 : Nat) : Int)) C.1 C.2.1 dX5_init_5 (by decide) ?_
  refine fx_newaI C Z rfl (okm (i := 75) rfl rfl) 10 (by decide) dX5_init_7 (by decide) (by decide) (fun ad q1 H ha hq Z => ?_)
  rw [← ew1] at Z
  rw [n0] at hq
  have eo := (ha o (by omega)).trans eo
  have e1 := hq
  refine fx_putF C hin Z gX5_init_9 (fs' := [.ref N]) g1_o eo e1 (by omega) (by simp) rfl (fun H locs Z => ?_)
  rw [← ew2] at Z
  exact fx_ret C Z rfl dX5_init_12 rfl (by decide) (by decide)
set_option maxRecDepth 20000 in
theorem c_X4_init {w : fw_S} (g0_7 : fw_g w 7 (.inl (4, [.null, .null, .null, .null]))) (n0 : w.1 = 8) (f0 : fw_wf w) : ∃ (w' : fw_S) (fa : Nat → Int), fa_K 2 5 112 mX4_init [.ref 7, .ref 1] w w' ∧ kx w w' 5 (fun k => k = 7) ∧ fw_g w' 7 (.inl (4, [.ref 1, .ref 8, .ref 10, .ref 12])) ∧ fw_g w' 8 (.inl (6, [.ref 9, .int (iI ((2 : Nat) : Int))])) ∧ fw_g w' 9 (.inr (36, .inl fa)) ∧ fw_g w' 10 (.inl (1, [.ref 8, .ref 11, .int 0, .int 0])) ∧ fw_g w' 11 (.inr (6, .inl (fun _ => 0))) ∧ fw_g w' 12 (.inr (64, .inl (fun _ => 0))) ∧ fw_wf w' := by
  have x0 : kx w w 0 (fun k => k = 7) := kx.rf
  obtain ⟨w1, ew1⟩ : ∃ x, x = fw_push w (.inl (6, [.null, .int 0])) := ⟨_, rfl⟩
  have g1_7 : fw_g w1 7 (.inl (4, [.null, .null, .null, .null])) := by rw [ew1]; exact fw_g.push g0_7
  have g1_8 : fw_g w1 8 (.inl (6, [.null, .int 0])) := by rw [ew1, ← n0]; exact fw_g.new
  have n1 : w1.1 = 9 := by rw [ew1]; show w.1 + 1 = _; omega
  have f1 : fw_wf w1 := by rw [ew1]; exact f0.push (by intro v hv r hr; subst hr; simp at hv)
  have x1 : kx w w1 1 (fun k => k = 7) := by rw [ew1]; exact x0.push _
  obtain ⟨w2, K2, y2, h2_0, f2⟩ := c_X6_init (o := 8) g1_8 n1 f1
  obtain ⟨fa2, ga2, da2⟩ := h2_0.2.1
  have g2_7 : fw_g w2 7 (.inl (4, [.null, .null, .null, .null])) := y2.g (by omega) g1_7
  have g2_8 : fw_g w2 8 (.inl (6, [.ref 9, .int (iI ((2 : Nat) : Int))])) := h2_0.1
  have g2_9 : fw_g w2 9 (.inr (36, .inl fa2)) := ga2
  have n2 : w2.1 = 10 := by have := y2.1; omega
  have x2 : kx w w2 2 (fun k => k = 7) := x1.kx y2 (fun k hk => by omega)
  obtain ⟨w3, ew3⟩ : ∃ x, x = fw_up w2 7 (.inl (4, [.null, .ref 8, .null, .null])) := ⟨_, rfl⟩
  have g3_8 : fw_g w3 8 (.inl (6, [.ref 9, .int (iI ((2 : Nat) : Int))])) := by rw [ew3]; exact g2_8.ne _ (by omega)
  have g3_9 : fw_g w3 9 (.inr (36, .inl fa2)) := by rw [ew3]; exact g2_9.ne _ (by omega)
  have g3_7 : fw_g w3 7 (.inl (4, [.null, .ref 8, .null, .null])) := by rw [ew3]; exact g2_7.up _
  have n3 : w3.1 = 10 := by rw [ew3]; exact n2
  have f3 : fw_wf w3 := by
    rw [ew3]
    refine fw_up_wf f2 (fun v hv r hr => ?_)
    subst hr
    simp only [List.mem_cons, Value.ref.injEq, reduceCtorEq, false_or, or_false, List.not_mem_nil] at hv
    have hv : @Eq Nat r 8 := hv
    show @LT.lt Nat _ r w2.1
    omega
  have x3 : kx w w3 2 (fun k => k = 7) := by rw [ew3]; exact x2.up _ (by omega)
  obtain ⟨w4, ew4⟩ : ∃ x, x = fw_push w3 (.inl (1, [.null, .null, .int 0, .int 0])) := ⟨_, rfl⟩
  have g4_7 : fw_g w4 7 (.inl (4, [.null, .ref 8, .null, .null])) := by rw [ew4]; exact fw_g.push g3_7
  have g4_8 : fw_g w4 8 (.inl (6, [.ref 9, .int (iI ((2 : Nat) : Int))])) := by rw [ew4]; exact fw_g.push g3_8
  have g4_9 : fw_g w4 9 (.inr (36, .inl fa2)) := by rw [ew4]; exact fw_g.push g3_9
  have g4_10 : fw_g w4 10 (.inl (1, [.null, .null, .int 0, .int 0])) := by rw [ew4, ← n3]; exact fw_g.new
  have n4 : w4.1 = 11 := by rw [ew4]; show w3.1 + 1 = _; omega
  have f4 : fw_wf w4 := by rw [ew4]; exact f3.push (by intro v hv r hr; subst hr; simp at hv)
  have x4 : kx w w4 3 (fun k => k = 7) := by rw [ew4]; exact x3.push _
  obtain ⟨w5, K5, y5, h5_0, h5_1, f5⟩ := c_X1_init (o := 10) (t := 8) g4_10 n4 f4 (by omega)
  have g5_7 : fw_g w5 7 (.inl (4, [.null, .ref 8, .null, .null])) := y5.g (by omega) g4_7
  have g5_8 : fw_g w5 8 (.inl (6, [.ref 9, .int (iI ((2 : Nat) : Int))])) := y5.g (by omega) g4_8
  have g5_9 : fw_g w5 9 (.inr (36, .inl fa2)) := y5.g (by omega) g4_9
  have g5_10 : fw_g w5 10 (.inl (1, [.ref 8, .ref 11, .int 0, .int 0])) := h5_0
  have g5_11 : fw_g w5 11 (.inr (6, .inl (fun _ => 0))) := h5_1
  have n5 : w5.1 = 12 := by have := y5.1; omega
  have x5 : kx w w5 4 (fun k => k = 7) := x4.kx y5 (fun k hk => by omega)
  obtain ⟨w6, ew6⟩ : ∃ x, x = fw_up w5 7 (.inl (4, [.null, .ref 8, .ref 10, .null])) := ⟨_, rfl⟩
  have g6_8 : fw_g w6 8 (.inl (6, [.ref 9, .int (iI ((2 : Nat) : Int))])) := by rw [ew6]; exact g5_8.ne _ (by omega)
  have g6_9 : fw_g w6 9 (.inr (36, .inl fa2)) := by rw [ew6]; exact g5_9.ne _ (by omega)
  have g6_10 : fw_g w6 10 (.inl (1, [.ref 8, .ref 11, .int 0, .int 0])) := by rw [ew6]; exact g5_10.ne _ (by omega)
  have g6_11 : fw_g w6 11 (.inr (6, .inl (fun _ => 0))) := by rw [ew6]; exact g5_11.ne _ (by omega)
  have g6_7 : fw_g w6 7 (.inl (4, [.null, .ref 8, .ref 10, .null])) := by rw [ew6]; exact g5_7.up _
  have n6 : w6.1 = 12 := by rw [ew6]; exact n5
  have f6 : fw_wf w6 := by
    rw [ew6]
    refine fw_up_wf f5 (fun v hv r hr => ?_)
    subst hr
    simp only [List.mem_cons, Value.ref.injEq, reduceCtorEq, false_or, or_false, List.not_mem_nil] at hv
    have hv : @Eq Nat r 8 ∨ @Eq Nat r 10 := hv
    show @LT.lt Nat _ r w5.1
    omega
  have x6 : kx w w6 4 (fun k => k = 7) := by rw [ew6]; exact x5.up _ (by omega)
  obtain ⟨w7, ew7⟩ : ∃ x, x = fw_push w6 (.inr (64, .inl (fun _ => 0))) := ⟨_, rfl⟩
  have g7_7 : fw_g w7 7 (.inl (4, [.null, .ref 8, .ref 10, .null])) := by rw [ew7]; exact fw_g.push g6_7
  have g7_8 : fw_g w7 8 (.inl (6, [.ref 9, .int (iI ((2 : Nat) : Int))])) := by rw [ew7]; exact fw_g.push g6_8
  have g7_9 : fw_g w7 9 (.inr (36, .inl fa2)) := by rw [ew7]; exact fw_g.push g6_9
  have g7_10 : fw_g w7 10 (.inl (1, [.ref 8, .ref 11, .int 0, .int 0])) := by rw [ew7]; exact fw_g.push g6_10
  have g7_11 : fw_g w7 11 (.inr (6, .inl (fun _ => 0))) := by rw [ew7]; exact fw_g.push g6_11
  have g7_12 : fw_g w7 12 (.inr (64, .inl (fun _ => 0))) := by rw [ew7, ← n6]; exact fw_g.new
  have n7 : w7.1 = 13 := by rw [ew7]; show w6.1 + 1 = _; omega
  have f7 : fw_wf w7 := by rw [ew7]; exact f6.push trivial
  have x7 : kx w w7 5 (fun k => k = 7) := by rw [ew7]; exact x6.push _
  obtain ⟨w8, ew8⟩ : ∃ x, x = fw_up w7 7 (.inl (4, [.null, .ref 8, .ref 10, .ref 12])) := ⟨_, rfl⟩
  have g8_8 : fw_g w8 8 (.inl (6, [.ref 9, .int (iI ((2 : Nat) : Int))])) := by rw [ew8]; exact g7_8.ne _ (by omega)
  have g8_9 : fw_g w8 9 (.inr (36, .inl fa2)) := by rw [ew8]; exact g7_9.ne _ (by omega)
  have g8_10 : fw_g w8 10 (.inl (1, [.ref 8, .ref 11, .int 0, .int 0])) := by rw [ew8]; exact g7_10.ne _ (by omega)
  have g8_11 : fw_g w8 11 (.inr (6, .inl (fun _ => 0))) := by rw [ew8]; exact g7_11.ne _ (by omega)
  have g8_12 : fw_g w8 12 (.inr (64, .inl (fun _ => 0))) := by rw [ew8]; exact g7_12.ne _ (by omega)
  have g8_7 : fw_g w8 7 (.inl (4, [.null, .ref 8, .ref 10, .ref 12])) := by rw [ew8]; exact g7_7.up _
  have n8 : w8.1 = 13 := by rw [ew8]; exact n7
  have f8 : fw_wf w8 := by
    rw [ew8]
    refine fw_up_wf f7 (fun v hv r hr => ?_)
    subst hr
    simp only [List.mem_cons, Value.ref.injEq, reduceCtorEq, false_or, or_false, List.not_mem_nil] at hv
    have hv : @Eq Nat r 8 ∨ @Eq Nat r 10 ∨ @Eq Nat r 12 := hv
    show @LT.lt Nat _ r w7.1
    omega
  have x8 : kx w w8 5 (fun k => k = 7) := by rw [ew8]; exact x7.up _ (by omega)
  obtain ⟨w9, ew9⟩ : ∃ x, x = fw_up w8 7 (.inl (4, [.ref 1, .ref 8, .ref 10, .ref 12])) := ⟨_, rfl⟩
  have g9_8 : fw_g w9 8 (.inl (6, [.ref 9, .int (iI ((2 : Nat) : Int))])) := by rw [ew9]; exact g8_8.ne _ (by omega)
  have g9_9 : fw_g w9 9 (.inr (36, .inl fa2)) := by rw [ew9]; exact g8_9.ne _ (by omega)
  have g9_10 : fw_g w9 10 (.inl (1, [.ref 8, .ref 11, .int 0, .int 0])) := by rw [ew9]; exact g8_10.ne _ (by omega)
  have g9_11 : fw_g w9 11 (.inr (6, .inl (fun _ => 0))) := by rw [ew9]; exact g8_11.ne _ (by omega)
  have g9_12 : fw_g w9 12 (.inr (64, .inl (fun _ => 0))) := by rw [ew9]; exact g8_12.ne _ (by omega)
  have g9_7 : fw_g w9 7 (.inl (4, [.ref 1, .ref 8, .ref 10, .ref 12])) := by rw [ew9]; exact g8_7.up _
  have n9 : w9.1 = 13 := by rw [ew9]; exact n8
  have f9 : fw_wf w9 := by
    rw [ew9]
    refine fw_up_wf f8 (fun v hv r hr => ?_)
    subst hr
    simp only [List.mem_cons, Value.ref.injEq, reduceCtorEq, false_or, or_false, List.not_mem_nil] at hv
    have hv : @Eq Nat r 1 ∨ @Eq Nat r 8 ∨ @Eq Nat r 10 ∨ @Eq Nat r 12 := hv
    show @LT.lt Nat _ r w8.1
    omega
  have x9 : kx w w9 5 (fun k => k = 7) := by rw [ew9]; exact x8.up _ (by omega)
  refine ⟨w9, fa2, ?_, x9, g9_7, g9_8, g9_9, g9_10, g9_11, g9_12, f9⟩
  refine fa_K.of (by decide) (by omega) f0 (Nat.le_of_ble_eq_true rfl) (fun p l e s m args below meth c g0 ls C hin Z hl => ?_)
  obtain ⟨_, hin1, hin2⟩ := hin
  have hin : meth.name = "<init>" := hin2.trans (hin1.symm.trans rfl)
  skip
  have eo : fw_ad g0 7 = fw_ad g0 7 := rfl
  have et : fw_ad g0 1 = fw_ad g0 1 := rfl
  refine lv_aload_n C.1 C.2.1 dX4_init_0 rfl (lv_at hl 0 rfl) ?_
  refine fx_obj C dX4_init_1 (okm (i := 117) rfl rfl) (okm (i := 50) rfl rfl) (okm (i := 51) rfl rfl) hl.1 (Nat.le_of_ble_eq_true rfl) (by decide) ?_
  refine lv_aload_n C.1 C.2.1 dX4_init_4 rfl (lv_at hl 0 rfl) ?_
  refine fx_new C Z (ci := 6) (fs := [.null, .int 0]) dX4_init_5 rfl inX6 tyX6 tyX6_ok (okm (i := 118) rfl rfl) (okm (i := 53) rfl rfl) (okm (i := 34) rfl rfl) (fun j hj => by rcases (show j = 0 ∨ j = 1 by omega) with rfl | rfl <;> rfl) (fun _ => rfl) (by decide) (by decide) (fun ad q1 H ha hq Z => ?_)
  rw [← ew1] at Z
  rw [n0] at hq
  have eo := (ha 7 (by omega)).trans eo
  have et := (ha 1 (by omega)).trans et
  have e1 := hq
  refine lv_dup C.1 C.2.1 dX4_init_8 rfl ?_
  refine fx_callI C Z (As' := []) iX4_init_9 K2 (by omega) (by decide) rfl rfl e1 rfl (Nat.le_of_ble_eq_true rfl) hl.1 (by decide) (by decide) f2 (fun ad H locs ha Z => ?_)
  have eo := (ha 7 (by omega)).trans eo
  have et := (ha 1 (by omega)).trans et
  have e1 := (ha 8 (by omega)).trans e1
  refine fx_putF C hin Z gX4_init_12 (fs' := [.null, .ref 8, .null, .null]) g2_7 eo e1 (by omega) (by simp) rfl (fun H locs Z => ?_)
  rw [← ew3] at Z
  refine lv_aload_n C.1 C.2.1 dX4_init_15 rfl (lv_at hl 0 rfl) ?_
  refine fx_new C Z (ci := 1) (fs := [.null, .null, .int 0, .int 0]) dX4_init_16 rfl inX1 tyX1 tyX1_ok (okm (i := 120) rfl rfl) (okm (i := 77) rfl rfl) (okm (i := 35) rfl rfl) (fun j hj => by rcases (show j = 0 ∨ j = 1 ∨ j = 2 ∨ j = 3 by omega) with rfl | rfl | rfl | rfl <;> rfl) (fun _ => rfl) (by decide) (by decide) (fun ad q4 H ha hq Z => ?_)
  rw [← ew4] at Z
  rw [n3] at hq
  have eo := (ha 7 (by omega)).trans eo
  have et := (ha 1 (by omega)).trans et
  have e1 := (ha 8 (by omega)).trans e1
  have e4 := hq
  refine lv_dup C.1 C.2.1 dX4_init_19 rfl ?_
  refine lv_aload_n C.1 C.2.1 dX4_init_20 rfl (lv_at hl 0 rfl) ?_
  refine fx_get C Z fX4_init_21 g4_7 rfl eo e1 ?_
  refine fx_callI C Z (As' := [.ref q1]) iX4_init_24 K5 (by omega) (by decide) rfl (by show [Value.ref (ad 8)] = _; rw [e1]) e4 rfl (Nat.le_of_ble_eq_true rfl) hl.1 (by decide) (by decide) f5 (fun ad H locs ha Z => ?_)
  have eo := (ha 7 (by omega)).trans eo
  have et := (ha 1 (by omega)).trans et
  have e1 := (ha 8 (by omega)).trans e1
  have e4 := (ha 10 (by omega)).trans e4
  refine fx_putF C hin Z gX4_init_27 (fs' := [.null, .ref 8, .ref 10, .null]) g5_7 eo e4 (by omega) (by simp) rfl (fun H locs Z => ?_)
  rw [← ew6] at Z
  refine lv_aload_n C.1 C.2.1 dX4_init_30 rfl (lv_at hl 0 rfl) ?_
  refine lv_bipush (v := iI ((64 : Nat) : Int)) C.1 C.2.1 dX4_init_31 (by decide) ?_
  refine fx_newaI C Z rfl (okm (i := 75) rfl rfl) 64 (by decide) dX4_init_33 (by decide) (by decide) (fun ad q7 H ha hq Z => ?_)
  rw [← ew7] at Z
  rw [n6] at hq
  have eo := (ha 7 (by omega)).trans eo
  have et := (ha 1 (by omega)).trans et
  have e1 := (ha 8 (by omega)).trans e1
  have e4 := (ha 10 (by omega)).trans e4
  have e7 := hq
  refine fx_putF C hin Z gX4_init_35 (fs' := [.null, .ref 8, .ref 10, .ref 12]) g7_7 eo e7 (by omega) (by simp) rfl (fun H locs Z => ?_)
  rw [← ew8] at Z
  refine lv_aload_n C.1 C.2.1 dX4_init_38 rfl (lv_at hl 0 rfl) ?_
  refine lv_aload_n C.1 C.2.1 dX4_init_39 rfl (lv_at hl 1 rfl) ?_
  refine fx_putF C hin Z gX4_init_40 (fs' := [.ref 1, .ref 8, .ref 10, .ref 12]) g8_7 eo et (by omega) (by simp) rfl (fun H locs Z => ?_)
  rw [← ew9] at Z
  exact fx_ret C Z rfl dX4_init_43 rfl (by decide) (by decide)
set_option maxRecDepth 20000 in
theorem c_X7_init {w : fw_S} (g0_0 : fw_g w 0 (.inl (7, [.null, .null, .null, .null, .null, .null, .null]))) (n0 : w.1 = 1) (f0 : fw_wf w) : ∃ w' : fw_S, fa_K 3 17 223 mX7_init [.ref 0] w w' ∧ kx w w' 17 (fun k => k = 0) ∧ WC w' 2 D1 (fun _ => 0) ∧ fw_wf w' := by
  have x0 : kx w w 0 (fun k => k = 0) := kx.rf
  obtain ⟨w1, ew1⟩ : ∃ x, x = fw_push w (.inl (6, [.null, .int 0])) := ⟨_, rfl⟩
  have g1_0 : fw_g w1 0 (.inl (7, [.null, .null, .null, .null, .null, .null, .null])) := by rw [ew1]; exact fw_g.push g0_0
  have g1_1 : fw_g w1 1 (.inl (6, [.null, .int 0])) := by rw [ew1, ← n0]; exact fw_g.new
  have n1 : w1.1 = 2 := by rw [ew1]; show w.1 + 1 = _; omega
  have f1 : fw_wf w1 := by rw [ew1]; exact f0.push (by intro v hv r hr; subst hr; simp at hv)
  have x1 : kx w w1 1 (fun k => k = 0) := by rw [ew1]; exact x0.push _
  obtain ⟨w2, K2, y2, h2_0, f2⟩ := c_X6_init (o := 1) g1_1 n1 f1
  obtain ⟨fa2, ga2, da2⟩ := h2_0.2.1
  have g2_0 : fw_g w2 0 (.inl (7, [.null, .null, .null, .null, .null, .null, .null])) := y2.g (by omega) g1_0
  have g2_1 : fw_g w2 1 (.inl (6, [.ref 2, .int (iI ((2 : Nat) : Int))])) := h2_0.1
  have g2_2 : fw_g w2 2 (.inr (36, .inl fa2)) := ga2
  have n2 : w2.1 = 3 := by have := y2.1; omega
  have x2 : kx w w2 2 (fun k => k = 0) := x1.kx y2 (fun k hk => by omega)
  obtain ⟨w3, ew3⟩ : ∃ x, x = fw_up w2 0 (.inl (7, [.ref 1, .null, .null, .null, .null, .null, .null])) := ⟨_, rfl⟩
  have g3_1 : fw_g w3 1 (.inl (6, [.ref 2, .int (iI ((2 : Nat) : Int))])) := by rw [ew3]; exact g2_1.ne _ (by omega)
  have g3_2 : fw_g w3 2 (.inr (36, .inl fa2)) := by rw [ew3]; exact g2_2.ne _ (by omega)
  have g3_0 : fw_g w3 0 (.inl (7, [.ref 1, .null, .null, .null, .null, .null, .null])) := by rw [ew3]; exact g2_0.up _
  have n3 : w3.1 = 3 := by rw [ew3]; exact n2
  have f3 : fw_wf w3 := by
    rw [ew3]
    refine fw_up_wf f2 (fun v hv r hr => ?_)
    subst hr
    simp only [List.mem_cons, Value.ref.injEq, reduceCtorEq, false_or, or_false, List.not_mem_nil] at hv
    have hv : @Eq Nat r 1 := hv
    show @LT.lt Nat _ r w2.1
    omega
  have x3 : kx w w3 2 (fun k => k = 0) := by rw [ew3]; exact x2.up _ (by omega)
  obtain ⟨w4, ew4⟩ : ∃ x, x = fw_push w3 (.inl (1, [.null, .null, .int 0, .int 0])) := ⟨_, rfl⟩
  have g4_0 : fw_g w4 0 (.inl (7, [.ref 1, .null, .null, .null, .null, .null, .null])) := by rw [ew4]; exact fw_g.push g3_0
  have g4_1 : fw_g w4 1 (.inl (6, [.ref 2, .int (iI ((2 : Nat) : Int))])) := by rw [ew4]; exact fw_g.push g3_1
  have g4_2 : fw_g w4 2 (.inr (36, .inl fa2)) := by rw [ew4]; exact fw_g.push g3_2
  have g4_3 : fw_g w4 3 (.inl (1, [.null, .null, .int 0, .int 0])) := by rw [ew4, ← n3]; exact fw_g.new
  have n4 : w4.1 = 4 := by rw [ew4]; show w3.1 + 1 = _; omega
  have f4 : fw_wf w4 := by rw [ew4]; exact f3.push (by intro v hv r hr; subst hr; simp at hv)
  have x4 : kx w w4 3 (fun k => k = 0) := by rw [ew4]; exact x3.push _
  obtain ⟨w5, K5, y5, h5_0, h5_1, f5⟩ := c_X1_init (o := 3) (t := 1) g4_3 n4 f4 (by omega)
  have g5_0 : fw_g w5 0 (.inl (7, [.ref 1, .null, .null, .null, .null, .null, .null])) := y5.g (by omega) g4_0
  have g5_1 : fw_g w5 1 (.inl (6, [.ref 2, .int (iI ((2 : Nat) : Int))])) := y5.g (by omega) g4_1
  have g5_2 : fw_g w5 2 (.inr (36, .inl fa2)) := y5.g (by omega) g4_2
  have g5_3 : fw_g w5 3 (.inl (1, [.ref 1, .ref 4, .int 0, .int 0])) := h5_0
  have g5_4 : fw_g w5 4 (.inr (6, .inl (fun _ => 0))) := h5_1
  have n5 : w5.1 = 5 := by have := y5.1; omega
  have x5 : kx w w5 4 (fun k => k = 0) := x4.kx y5 (fun k hk => by omega)
  obtain ⟨w6, ew6⟩ : ∃ x, x = fw_up w5 0 (.inl (7, [.ref 1, .ref 3, .null, .null, .null, .null, .null])) := ⟨_, rfl⟩
  have g6_1 : fw_g w6 1 (.inl (6, [.ref 2, .int (iI ((2 : Nat) : Int))])) := by rw [ew6]; exact g5_1.ne _ (by omega)
  have g6_2 : fw_g w6 2 (.inr (36, .inl fa2)) := by rw [ew6]; exact g5_2.ne _ (by omega)
  have g6_3 : fw_g w6 3 (.inl (1, [.ref 1, .ref 4, .int 0, .int 0])) := by rw [ew6]; exact g5_3.ne _ (by omega)
  have g6_4 : fw_g w6 4 (.inr (6, .inl (fun _ => 0))) := by rw [ew6]; exact g5_4.ne _ (by omega)
  have g6_0 : fw_g w6 0 (.inl (7, [.ref 1, .ref 3, .null, .null, .null, .null, .null])) := by rw [ew6]; exact g5_0.up _
  have n6 : w6.1 = 5 := by rw [ew6]; exact n5
  have f6 : fw_wf w6 := by
    rw [ew6]
    refine fw_up_wf f5 (fun v hv r hr => ?_)
    subst hr
    simp only [List.mem_cons, Value.ref.injEq, reduceCtorEq, false_or, or_false, List.not_mem_nil] at hv
    have hv : @Eq Nat r 1 ∨ @Eq Nat r 3 := hv
    show @LT.lt Nat _ r w5.1
    omega
  have x6 : kx w w6 4 (fun k => k = 0) := by rw [ew6]; exact x5.up _ (by omega)
  obtain ⟨w7, ew7⟩ : ∃ x, x = fw_push w6 (.inl (3, [.null, .null])) := ⟨_, rfl⟩
  have g7_0 : fw_g w7 0 (.inl (7, [.ref 1, .ref 3, .null, .null, .null, .null, .null])) := by rw [ew7]; exact fw_g.push g6_0
  have g7_1 : fw_g w7 1 (.inl (6, [.ref 2, .int (iI ((2 : Nat) : Int))])) := by rw [ew7]; exact fw_g.push g6_1
  have g7_2 : fw_g w7 2 (.inr (36, .inl fa2)) := by rw [ew7]; exact fw_g.push g6_2
  have g7_3 : fw_g w7 3 (.inl (1, [.ref 1, .ref 4, .int 0, .int 0])) := by rw [ew7]; exact fw_g.push g6_3
  have g7_4 : fw_g w7 4 (.inr (6, .inl (fun _ => 0))) := by rw [ew7]; exact fw_g.push g6_4
  have g7_5 : fw_g w7 5 (.inl (3, [.null, .null])) := by rw [ew7, ← n6]; exact fw_g.new
  have n7 : w7.1 = 6 := by rw [ew7]; show w6.1 + 1 = _; omega
  have f7 : fw_wf w7 := by rw [ew7]; exact f6.push (by intro v hv r hr; subst hr; simp at hv)
  have x7 : kx w w7 5 (fun k => k = 0) := by rw [ew7]; exact x6.push _
  obtain ⟨w8, K8, y8, h8_0, h8_1, f8⟩ := c_X3_init (o := 5) (t := 1) g7_5 n7 f7 (by omega)
  have g8_0 : fw_g w8 0 (.inl (7, [.ref 1, .ref 3, .null, .null, .null, .null, .null])) := y8.g (by omega) g7_0
  have g8_1 : fw_g w8 1 (.inl (6, [.ref 2, .int (iI ((2 : Nat) : Int))])) := y8.g (by omega) g7_1
  have g8_2 : fw_g w8 2 (.inr (36, .inl fa2)) := y8.g (by omega) g7_2
  have g8_3 : fw_g w8 3 (.inl (1, [.ref 1, .ref 4, .int 0, .int 0])) := y8.g (by omega) g7_3
  have g8_4 : fw_g w8 4 (.inr (6, .inl (fun _ => 0))) := y8.g (by omega) g7_4
  have g8_5 : fw_g w8 5 (.inl (3, [.ref 1, .ref 6])) := h8_0
  have g8_6 : fw_g w8 6 (.inr (32, .inr (fun _ => 0))) := h8_1
  have n8 : w8.1 = 7 := by have := y8.1; omega
  have x8 : kx w w8 6 (fun k => k = 0) := x7.kx y8 (fun k hk => by omega)
  obtain ⟨w9, ew9⟩ : ∃ x, x = fw_up w8 0 (.inl (7, [.ref 1, .ref 3, .ref 5, .null, .null, .null, .null])) := ⟨_, rfl⟩
  have g9_1 : fw_g w9 1 (.inl (6, [.ref 2, .int (iI ((2 : Nat) : Int))])) := by rw [ew9]; exact g8_1.ne _ (by omega)
  have g9_2 : fw_g w9 2 (.inr (36, .inl fa2)) := by rw [ew9]; exact g8_2.ne _ (by omega)
  have g9_3 : fw_g w9 3 (.inl (1, [.ref 1, .ref 4, .int 0, .int 0])) := by rw [ew9]; exact g8_3.ne _ (by omega)
  have g9_4 : fw_g w9 4 (.inr (6, .inl (fun _ => 0))) := by rw [ew9]; exact g8_4.ne _ (by omega)
  have g9_5 : fw_g w9 5 (.inl (3, [.ref 1, .ref 6])) := by rw [ew9]; exact g8_5.ne _ (by omega)
  have g9_6 : fw_g w9 6 (.inr (32, .inr (fun _ => 0))) := by rw [ew9]; exact g8_6.ne _ (by omega)
  have g9_0 : fw_g w9 0 (.inl (7, [.ref 1, .ref 3, .ref 5, .null, .null, .null, .null])) := by rw [ew9]; exact g8_0.up _
  have n9 : w9.1 = 7 := by rw [ew9]; exact n8
  have f9 : fw_wf w9 := by
    rw [ew9]
    refine fw_up_wf f8 (fun v hv r hr => ?_)
    subst hr
    simp only [List.mem_cons, Value.ref.injEq, reduceCtorEq, false_or, or_false, List.not_mem_nil] at hv
    have hv : @Eq Nat r 1 ∨ @Eq Nat r 3 ∨ @Eq Nat r 5 := hv
    show @LT.lt Nat _ r w8.1
    omega
  have x9 : kx w w9 6 (fun k => k = 0) := by rw [ew9]; exact x8.up _ (by omega)
  obtain ⟨w10, ew10⟩ : ∃ x, x = fw_push w9 (.inl (4, [.null, .null, .null, .null])) := ⟨_, rfl⟩
  have g10_0 : fw_g w10 0 (.inl (7, [.ref 1, .ref 3, .ref 5, .null, .null, .null, .null])) := by rw [ew10]; exact fw_g.push g9_0
  have g10_1 : fw_g w10 1 (.inl (6, [.ref 2, .int (iI ((2 : Nat) : Int))])) := by rw [ew10]; exact fw_g.push g9_1
  have g10_2 : fw_g w10 2 (.inr (36, .inl fa2)) := by rw [ew10]; exact fw_g.push g9_2
  have g10_3 : fw_g w10 3 (.inl (1, [.ref 1, .ref 4, .int 0, .int 0])) := by rw [ew10]; exact fw_g.push g9_3
  have g10_4 : fw_g w10 4 (.inr (6, .inl (fun _ => 0))) := by rw [ew10]; exact fw_g.push g9_4
  have g10_5 : fw_g w10 5 (.inl (3, [.ref 1, .ref 6])) := by rw [ew10]; exact fw_g.push g9_5
  have g10_6 : fw_g w10 6 (.inr (32, .inr (fun _ => 0))) := by rw [ew10]; exact fw_g.push g9_6
  have g10_7 : fw_g w10 7 (.inl (4, [.null, .null, .null, .null])) := by rw [ew10, ← n9]; exact fw_g.new
  have n10 : w10.1 = 8 := by rw [ew10]; show w9.1 + 1 = _; omega
  have f10 : fw_wf w10 := by rw [ew10]; exact f9.push (by intro v hv r hr; subst hr; simp at hv)
  have x10 : kx w w10 7 (fun k => k = 0) := by rw [ew10]; exact x9.push _
  obtain ⟨w11, fb, K11, y11, h11_0, h11_1, h11_2, h11_3, h11_4, h11_5, f11⟩ := c_X4_init g10_7 n10 f10
  have g11_0 : fw_g w11 0 (.inl (7, [.ref 1, .ref 3, .ref 5, .null, .null, .null, .null])) := y11.g (by omega) g10_0
  have g11_1 : fw_g w11 1 (.inl (6, [.ref 2, .int (iI ((2 : Nat) : Int))])) := y11.g (by omega) g10_1
  have g11_2 : fw_g w11 2 (.inr (36, .inl fa2)) := y11.g (by omega) g10_2
  have g11_3 : fw_g w11 3 (.inl (1, [.ref 1, .ref 4, .int 0, .int 0])) := y11.g (by omega) g10_3
  have g11_4 : fw_g w11 4 (.inr (6, .inl (fun _ => 0))) := y11.g (by omega) g10_4
  have g11_5 : fw_g w11 5 (.inl (3, [.ref 1, .ref 6])) := y11.g (by omega) g10_5
  have g11_6 : fw_g w11 6 (.inr (32, .inr (fun _ => 0))) := y11.g (by omega) g10_6
  have g11_7 : fw_g w11 7 (.inl (4, [.ref 1, .ref 8, .ref 10, .ref 12])) := h11_0
  have g11_8 : fw_g w11 8 (.inl (6, [.ref 9, .int (iI ((2 : Nat) : Int))])) := h11_1
  have g11_9 : fw_g w11 9 (.inr (36, .inl fb)) := h11_2
  have g11_10 : fw_g w11 10 (.inl (1, [.ref 8, .ref 11, .int 0, .int 0])) := h11_3
  have g11_11 : fw_g w11 11 (.inr (6, .inl (fun _ => 0))) := h11_4
  have g11_12 : fw_g w11 12 (.inr (64, .inl (fun _ => 0))) := h11_5
  have n11 : w11.1 = 13 := by have := y11.1; omega
  have x11 : kx w w11 12 (fun k => k = 0) := x10.kx y11 (fun k hk => by omega)
  obtain ⟨w12, ew12⟩ : ∃ x, x = fw_up w11 0 (.inl (7, [.ref 1, .ref 3, .ref 5, .ref 7, .null, .null, .null])) := ⟨_, rfl⟩
  have g12_1 : fw_g w12 1 (.inl (6, [.ref 2, .int (iI ((2 : Nat) : Int))])) := by rw [ew12]; exact g11_1.ne _ (by omega)
  have g12_2 : fw_g w12 2 (.inr (36, .inl fa2)) := by rw [ew12]; exact g11_2.ne _ (by omega)
  have g12_3 : fw_g w12 3 (.inl (1, [.ref 1, .ref 4, .int 0, .int 0])) := by rw [ew12]; exact g11_3.ne _ (by omega)
  have g12_4 : fw_g w12 4 (.inr (6, .inl (fun _ => 0))) := by rw [ew12]; exact g11_4.ne _ (by omega)
  have g12_5 : fw_g w12 5 (.inl (3, [.ref 1, .ref 6])) := by rw [ew12]; exact g11_5.ne _ (by omega)
  have g12_6 : fw_g w12 6 (.inr (32, .inr (fun _ => 0))) := by rw [ew12]; exact g11_6.ne _ (by omega)
  have g12_7 : fw_g w12 7 (.inl (4, [.ref 1, .ref 8, .ref 10, .ref 12])) := by rw [ew12]; exact g11_7.ne _ (by omega)
  have g12_8 : fw_g w12 8 (.inl (6, [.ref 9, .int (iI ((2 : Nat) : Int))])) := by rw [ew12]; exact g11_8.ne _ (by omega)
  have g12_9 : fw_g w12 9 (.inr (36, .inl fb)) := by rw [ew12]; exact g11_9.ne _ (by omega)
  have g12_10 : fw_g w12 10 (.inl (1, [.ref 8, .ref 11, .int 0, .int 0])) := by rw [ew12]; exact g11_10.ne _ (by omega)
  have g12_11 : fw_g w12 11 (.inr (6, .inl (fun _ => 0))) := by rw [ew12]; exact g11_11.ne _ (by omega)
  have g12_12 : fw_g w12 12 (.inr (64, .inl (fun _ => 0))) := by rw [ew12]; exact g11_12.ne _ (by omega)
  have g12_0 : fw_g w12 0 (.inl (7, [.ref 1, .ref 3, .ref 5, .ref 7, .null, .null, .null])) := by rw [ew12]; exact g11_0.up _
  have n12 : w12.1 = 13 := by rw [ew12]; exact n11
  have f12 : fw_wf w12 := by
    rw [ew12]
    refine fw_up_wf f11 (fun v hv r hr => ?_)
    subst hr
    simp only [List.mem_cons, Value.ref.injEq, reduceCtorEq, false_or, or_false, List.not_mem_nil] at hv
    have hv : @Eq Nat r 1 ∨ @Eq Nat r 3 ∨ @Eq Nat r 5 ∨ @Eq Nat r 7 := hv
    show @LT.lt Nat _ r w11.1
    omega
  have x12 : kx w w12 12 (fun k => k = 0) := by rw [ew12]; exact x11.up _ (by omega)
  obtain ⟨w13, ew13⟩ : ∃ x, x = fw_push w12 (.inl (2, [.null, .null, .int 0, .int 0, .int 0, .int 0, .int 0])) := ⟨_, rfl⟩
  have g13_0 : fw_g w13 0 (.inl (7, [.ref 1, .ref 3, .ref 5, .ref 7, .null, .null, .null])) := by rw [ew13]; exact fw_g.push g12_0
  have g13_1 : fw_g w13 1 (.inl (6, [.ref 2, .int (iI ((2 : Nat) : Int))])) := by rw [ew13]; exact fw_g.push g12_1
  have g13_2 : fw_g w13 2 (.inr (36, .inl fa2)) := by rw [ew13]; exact fw_g.push g12_2
  have g13_3 : fw_g w13 3 (.inl (1, [.ref 1, .ref 4, .int 0, .int 0])) := by rw [ew13]; exact fw_g.push g12_3
  have g13_4 : fw_g w13 4 (.inr (6, .inl (fun _ => 0))) := by rw [ew13]; exact fw_g.push g12_4
  have g13_5 : fw_g w13 5 (.inl (3, [.ref 1, .ref 6])) := by rw [ew13]; exact fw_g.push g12_5
  have g13_6 : fw_g w13 6 (.inr (32, .inr (fun _ => 0))) := by rw [ew13]; exact fw_g.push g12_6
  have g13_7 : fw_g w13 7 (.inl (4, [.ref 1, .ref 8, .ref 10, .ref 12])) := by rw [ew13]; exact fw_g.push g12_7
  have g13_8 : fw_g w13 8 (.inl (6, [.ref 9, .int (iI ((2 : Nat) : Int))])) := by rw [ew13]; exact fw_g.push g12_8
  have g13_9 : fw_g w13 9 (.inr (36, .inl fb)) := by rw [ew13]; exact fw_g.push g12_9
  have g13_10 : fw_g w13 10 (.inl (1, [.ref 8, .ref 11, .int 0, .int 0])) := by rw [ew13]; exact fw_g.push g12_10
  have g13_11 : fw_g w13 11 (.inr (6, .inl (fun _ => 0))) := by rw [ew13]; exact fw_g.push g12_11
  have g13_12 : fw_g w13 12 (.inr (64, .inl (fun _ => 0))) := by rw [ew13]; exact fw_g.push g12_12
  have g13_13 : fw_g w13 13 (.inl (2, [.null, .null, .int 0, .int 0, .int 0, .int 0, .int 0])) := by rw [ew13, ← n12]; exact fw_g.new
  have n13 : w13.1 = 14 := by rw [ew13]; show w12.1 + 1 = _; omega
  have f13 : fw_wf w13 := by rw [ew13]; exact f12.push (by intro v hv r hr; subst hr; simp at hv)
  have x13 : kx w w13 13 (fun k => k = 0) := by rw [ew13]; exact x12.push _
  obtain ⟨w14, K14, y14, h14_0, h14_1, f14⟩ := c_X2_init (o := 13) (t := 1) g13_13 n13 f13 (by omega)
  have g14_0 : fw_g w14 0 (.inl (7, [.ref 1, .ref 3, .ref 5, .ref 7, .null, .null, .null])) := y14.g (by omega) g13_0
  have g14_1 : fw_g w14 1 (.inl (6, [.ref 2, .int (iI ((2 : Nat) : Int))])) := y14.g (by omega) g13_1
  have g14_2 : fw_g w14 2 (.inr (36, .inl fa2)) := y14.g (by omega) g13_2
  have g14_3 : fw_g w14 3 (.inl (1, [.ref 1, .ref 4, .int 0, .int 0])) := y14.g (by omega) g13_3
  have g14_4 : fw_g w14 4 (.inr (6, .inl (fun _ => 0))) := y14.g (by omega) g13_4
  have g14_5 : fw_g w14 5 (.inl (3, [.ref 1, .ref 6])) := y14.g (by omega) g13_5
  have g14_6 : fw_g w14 6 (.inr (32, .inr (fun _ => 0))) := y14.g (by omega) g13_6
  have g14_7 : fw_g w14 7 (.inl (4, [.ref 1, .ref 8, .ref 10, .ref 12])) := y14.g (by omega) g13_7
  have g14_8 : fw_g w14 8 (.inl (6, [.ref 9, .int (iI ((2 : Nat) : Int))])) := y14.g (by omega) g13_8
  have g14_9 : fw_g w14 9 (.inr (36, .inl fb)) := y14.g (by omega) g13_9
  have g14_10 : fw_g w14 10 (.inl (1, [.ref 8, .ref 11, .int 0, .int 0])) := y14.g (by omega) g13_10
  have g14_11 : fw_g w14 11 (.inr (6, .inl (fun _ => 0))) := y14.g (by omega) g13_11
  have g14_12 : fw_g w14 12 (.inr (64, .inl (fun _ => 0))) := y14.g (by omega) g13_12
  have g14_13 : fw_g w14 13 (.inl (2, [.ref 1, .ref 14, .int 0, .int 0, .int 0, .int 0, .int 0])) := h14_0
  have g14_14 : fw_g w14 14 (.inr (6, .inl (fun _ => 0))) := h14_1
  have n14 : w14.1 = 15 := by have := y14.1; omega
  have x14 : kx w w14 14 (fun k => k = 0) := x13.kx y14 (fun k hk => by omega)
  obtain ⟨w15, ew15⟩ : ∃ x, x = fw_up w14 0 (.inl (7, [.ref 1, .ref 3, .ref 5, .ref 7, .ref 13, .null, .null])) := ⟨_, rfl⟩
  have g15_1 : fw_g w15 1 (.inl (6, [.ref 2, .int (iI ((2 : Nat) : Int))])) := by rw [ew15]; exact g14_1.ne _ (by omega)
  have g15_2 : fw_g w15 2 (.inr (36, .inl fa2)) := by rw [ew15]; exact g14_2.ne _ (by omega)
  have g15_3 : fw_g w15 3 (.inl (1, [.ref 1, .ref 4, .int 0, .int 0])) := by rw [ew15]; exact g14_3.ne _ (by omega)
  have g15_4 : fw_g w15 4 (.inr (6, .inl (fun _ => 0))) := by rw [ew15]; exact g14_4.ne _ (by omega)
  have g15_5 : fw_g w15 5 (.inl (3, [.ref 1, .ref 6])) := by rw [ew15]; exact g14_5.ne _ (by omega)
  have g15_6 : fw_g w15 6 (.inr (32, .inr (fun _ => 0))) := by rw [ew15]; exact g14_6.ne _ (by omega)
  have g15_7 : fw_g w15 7 (.inl (4, [.ref 1, .ref 8, .ref 10, .ref 12])) := by rw [ew15]; exact g14_7.ne _ (by omega)
  have g15_8 : fw_g w15 8 (.inl (6, [.ref 9, .int (iI ((2 : Nat) : Int))])) := by rw [ew15]; exact g14_8.ne _ (by omega)
  have g15_9 : fw_g w15 9 (.inr (36, .inl fb)) := by rw [ew15]; exact g14_9.ne _ (by omega)
  have g15_10 : fw_g w15 10 (.inl (1, [.ref 8, .ref 11, .int 0, .int 0])) := by rw [ew15]; exact g14_10.ne _ (by omega)
  have g15_11 : fw_g w15 11 (.inr (6, .inl (fun _ => 0))) := by rw [ew15]; exact g14_11.ne _ (by omega)
  have g15_12 : fw_g w15 12 (.inr (64, .inl (fun _ => 0))) := by rw [ew15]; exact g14_12.ne _ (by omega)
  have g15_13 : fw_g w15 13 (.inl (2, [.ref 1, .ref 14, .int 0, .int 0, .int 0, .int 0, .int 0])) := by rw [ew15]; exact g14_13.ne _ (by omega)
  have g15_14 : fw_g w15 14 (.inr (6, .inl (fun _ => 0))) := by rw [ew15]; exact g14_14.ne _ (by omega)
  have g15_0 : fw_g w15 0 (.inl (7, [.ref 1, .ref 3, .ref 5, .ref 7, .ref 13, .null, .null])) := by rw [ew15]; exact g14_0.up _
  have n15 : w15.1 = 15 := by rw [ew15]; exact n14
  have f15 : fw_wf w15 := by
    rw [ew15]
    refine fw_up_wf f14 (fun v hv r hr => ?_)
    subst hr
    simp only [List.mem_cons, Value.ref.injEq, reduceCtorEq, false_or, or_false, List.not_mem_nil] at hv
    have hv : @Eq Nat r 1 ∨ @Eq Nat r 3 ∨ @Eq Nat r 5 ∨ @Eq Nat r 7 ∨ @Eq Nat r 13 := hv
    show @LT.lt Nat _ r w14.1
    omega
  have x15 : kx w w15 14 (fun k => k = 0) := by rw [ew15]; exact x14.up _ (by omega)
  obtain ⟨w16, ew16⟩ : ∃ x, x = fw_push w15 (.inl (0, [.null])) := ⟨_, rfl⟩
  have g16_0 : fw_g w16 0 (.inl (7, [.ref 1, .ref 3, .ref 5, .ref 7, .ref 13, .null, .null])) := by rw [ew16]; exact fw_g.push g15_0
  have g16_1 : fw_g w16 1 (.inl (6, [.ref 2, .int (iI ((2 : Nat) : Int))])) := by rw [ew16]; exact fw_g.push g15_1
  have g16_2 : fw_g w16 2 (.inr (36, .inl fa2)) := by rw [ew16]; exact fw_g.push g15_2
  have g16_3 : fw_g w16 3 (.inl (1, [.ref 1, .ref 4, .int 0, .int 0])) := by rw [ew16]; exact fw_g.push g15_3
  have g16_4 : fw_g w16 4 (.inr (6, .inl (fun _ => 0))) := by rw [ew16]; exact fw_g.push g15_4
  have g16_5 : fw_g w16 5 (.inl (3, [.ref 1, .ref 6])) := by rw [ew16]; exact fw_g.push g15_5
  have g16_6 : fw_g w16 6 (.inr (32, .inr (fun _ => 0))) := by rw [ew16]; exact fw_g.push g15_6
  have g16_7 : fw_g w16 7 (.inl (4, [.ref 1, .ref 8, .ref 10, .ref 12])) := by rw [ew16]; exact fw_g.push g15_7
  have g16_8 : fw_g w16 8 (.inl (6, [.ref 9, .int (iI ((2 : Nat) : Int))])) := by rw [ew16]; exact fw_g.push g15_8
  have g16_9 : fw_g w16 9 (.inr (36, .inl fb)) := by rw [ew16]; exact fw_g.push g15_9
  have g16_10 : fw_g w16 10 (.inl (1, [.ref 8, .ref 11, .int 0, .int 0])) := by rw [ew16]; exact fw_g.push g15_10
  have g16_11 : fw_g w16 11 (.inr (6, .inl (fun _ => 0))) := by rw [ew16]; exact fw_g.push g15_11
  have g16_12 : fw_g w16 12 (.inr (64, .inl (fun _ => 0))) := by rw [ew16]; exact fw_g.push g15_12
  have g16_13 : fw_g w16 13 (.inl (2, [.ref 1, .ref 14, .int 0, .int 0, .int 0, .int 0, .int 0])) := by rw [ew16]; exact fw_g.push g15_13
  have g16_14 : fw_g w16 14 (.inr (6, .inl (fun _ => 0))) := by rw [ew16]; exact fw_g.push g15_14
  have g16_15 : fw_g w16 15 (.inl (0, [.null])) := by rw [ew16, ← n15]; exact fw_g.new
  have n16 : w16.1 = 16 := by rw [ew16]; show w15.1 + 1 = _; omega
  have f16 : fw_wf w16 := by rw [ew16]; exact f15.push (by intro v hv r hr; subst hr; simp at hv)
  have x16 : kx w w16 15 (fun k => k = 0) := by rw [ew16]; exact x15.push _
  obtain ⟨w17, K17, y17, h17_0, f17⟩ := c_X0_init (o := 15) (t := 1) g16_15 n16 f16 (by omega)
  have g17_0 : fw_g w17 0 (.inl (7, [.ref 1, .ref 3, .ref 5, .ref 7, .ref 13, .null, .null])) := y17.g (by omega) g16_0
  have g17_1 : fw_g w17 1 (.inl (6, [.ref 2, .int (iI ((2 : Nat) : Int))])) := y17.g (by omega) g16_1
  have g17_2 : fw_g w17 2 (.inr (36, .inl fa2)) := y17.g (by omega) g16_2
  have g17_3 : fw_g w17 3 (.inl (1, [.ref 1, .ref 4, .int 0, .int 0])) := y17.g (by omega) g16_3
  have g17_4 : fw_g w17 4 (.inr (6, .inl (fun _ => 0))) := y17.g (by omega) g16_4
  have g17_5 : fw_g w17 5 (.inl (3, [.ref 1, .ref 6])) := y17.g (by omega) g16_5
  have g17_6 : fw_g w17 6 (.inr (32, .inr (fun _ => 0))) := y17.g (by omega) g16_6
  have g17_7 : fw_g w17 7 (.inl (4, [.ref 1, .ref 8, .ref 10, .ref 12])) := y17.g (by omega) g16_7
  have g17_8 : fw_g w17 8 (.inl (6, [.ref 9, .int (iI ((2 : Nat) : Int))])) := y17.g (by omega) g16_8
  have g17_9 : fw_g w17 9 (.inr (36, .inl fb)) := y17.g (by omega) g16_9
  have g17_10 : fw_g w17 10 (.inl (1, [.ref 8, .ref 11, .int 0, .int 0])) := y17.g (by omega) g16_10
  have g17_11 : fw_g w17 11 (.inr (6, .inl (fun _ => 0))) := y17.g (by omega) g16_11
  have g17_12 : fw_g w17 12 (.inr (64, .inl (fun _ => 0))) := y17.g (by omega) g16_12
  have g17_13 : fw_g w17 13 (.inl (2, [.ref 1, .ref 14, .int 0, .int 0, .int 0, .int 0, .int 0])) := y17.g (by omega) g16_13
  have g17_14 : fw_g w17 14 (.inr (6, .inl (fun _ => 0))) := y17.g (by omega) g16_14
  have g17_15 : fw_g w17 15 (.inl (0, [.ref 1])) := h17_0
  have n17 : w17.1 = 16 := by have := y17.1; omega
  have x17 : kx w w17 15 (fun k => k = 0) := x16.kx y17 (fun k hk => by omega)
  obtain ⟨w18, ew18⟩ : ∃ x, x = fw_up w17 0 (.inl (7, [.ref 1, .ref 3, .ref 5, .ref 7, .ref 13, .ref 15, .null])) := ⟨_, rfl⟩
  have g18_1 : fw_g w18 1 (.inl (6, [.ref 2, .int (iI ((2 : Nat) : Int))])) := by rw [ew18]; exact g17_1.ne _ (by omega)
  have g18_2 : fw_g w18 2 (.inr (36, .inl fa2)) := by rw [ew18]; exact g17_2.ne _ (by omega)
  have g18_3 : fw_g w18 3 (.inl (1, [.ref 1, .ref 4, .int 0, .int 0])) := by rw [ew18]; exact g17_3.ne _ (by omega)
  have g18_4 : fw_g w18 4 (.inr (6, .inl (fun _ => 0))) := by rw [ew18]; exact g17_4.ne _ (by omega)
  have g18_5 : fw_g w18 5 (.inl (3, [.ref 1, .ref 6])) := by rw [ew18]; exact g17_5.ne _ (by omega)
  have g18_6 : fw_g w18 6 (.inr (32, .inr (fun _ => 0))) := by rw [ew18]; exact g17_6.ne _ (by omega)
  have g18_7 : fw_g w18 7 (.inl (4, [.ref 1, .ref 8, .ref 10, .ref 12])) := by rw [ew18]; exact g17_7.ne _ (by omega)
  have g18_8 : fw_g w18 8 (.inl (6, [.ref 9, .int (iI ((2 : Nat) : Int))])) := by rw [ew18]; exact g17_8.ne _ (by omega)
  have g18_9 : fw_g w18 9 (.inr (36, .inl fb)) := by rw [ew18]; exact g17_9.ne _ (by omega)
  have g18_10 : fw_g w18 10 (.inl (1, [.ref 8, .ref 11, .int 0, .int 0])) := by rw [ew18]; exact g17_10.ne _ (by omega)
  have g18_11 : fw_g w18 11 (.inr (6, .inl (fun _ => 0))) := by rw [ew18]; exact g17_11.ne _ (by omega)
  have g18_12 : fw_g w18 12 (.inr (64, .inl (fun _ => 0))) := by rw [ew18]; exact g17_12.ne _ (by omega)
  have g18_13 : fw_g w18 13 (.inl (2, [.ref 1, .ref 14, .int 0, .int 0, .int 0, .int 0, .int 0])) := by rw [ew18]; exact g17_13.ne _ (by omega)
  have g18_14 : fw_g w18 14 (.inr (6, .inl (fun _ => 0))) := by rw [ew18]; exact g17_14.ne _ (by omega)
  have g18_15 : fw_g w18 15 (.inl (0, [.ref 1])) := by rw [ew18]; exact g17_15.ne _ (by omega)
  have g18_0 : fw_g w18 0 (.inl (7, [.ref 1, .ref 3, .ref 5, .ref 7, .ref 13, .ref 15, .null])) := by rw [ew18]; exact g17_0.up _
  have n18 : w18.1 = 16 := by rw [ew18]; exact n17
  have f18 : fw_wf w18 := by
    rw [ew18]
    refine fw_up_wf f17 (fun v hv r hr => ?_)
    subst hr
    simp only [List.mem_cons, Value.ref.injEq, reduceCtorEq, false_or, or_false, List.not_mem_nil] at hv
    have hv : @Eq Nat r 1 ∨ @Eq Nat r 3 ∨ @Eq Nat r 5 ∨ @Eq Nat r 7 ∨ @Eq Nat r 13 ∨ @Eq Nat r 15 := hv
    show @LT.lt Nat _ r w17.1
    omega
  have x18 : kx w w18 15 (fun k => k = 0) := by rw [ew18]; exact x17.up _ (by omega)
  obtain ⟨w19, ew19⟩ : ∃ x, x = fw_push w18 (.inl (5, [.null])) := ⟨_, rfl⟩
  have g19_0 : fw_g w19 0 (.inl (7, [.ref 1, .ref 3, .ref 5, .ref 7, .ref 13, .ref 15, .null])) := by rw [ew19]; exact fw_g.push g18_0
  have g19_1 : fw_g w19 1 (.inl (6, [.ref 2, .int (iI ((2 : Nat) : Int))])) := by rw [ew19]; exact fw_g.push g18_1
  have g19_2 : fw_g w19 2 (.inr (36, .inl fa2)) := by rw [ew19]; exact fw_g.push g18_2
  have g19_3 : fw_g w19 3 (.inl (1, [.ref 1, .ref 4, .int 0, .int 0])) := by rw [ew19]; exact fw_g.push g18_3
  have g19_4 : fw_g w19 4 (.inr (6, .inl (fun _ => 0))) := by rw [ew19]; exact fw_g.push g18_4
  have g19_5 : fw_g w19 5 (.inl (3, [.ref 1, .ref 6])) := by rw [ew19]; exact fw_g.push g18_5
  have g19_6 : fw_g w19 6 (.inr (32, .inr (fun _ => 0))) := by rw [ew19]; exact fw_g.push g18_6
  have g19_7 : fw_g w19 7 (.inl (4, [.ref 1, .ref 8, .ref 10, .ref 12])) := by rw [ew19]; exact fw_g.push g18_7
  have g19_8 : fw_g w19 8 (.inl (6, [.ref 9, .int (iI ((2 : Nat) : Int))])) := by rw [ew19]; exact fw_g.push g18_8
  have g19_9 : fw_g w19 9 (.inr (36, .inl fb)) := by rw [ew19]; exact fw_g.push g18_9
  have g19_10 : fw_g w19 10 (.inl (1, [.ref 8, .ref 11, .int 0, .int 0])) := by rw [ew19]; exact fw_g.push g18_10
  have g19_11 : fw_g w19 11 (.inr (6, .inl (fun _ => 0))) := by rw [ew19]; exact fw_g.push g18_11
  have g19_12 : fw_g w19 12 (.inr (64, .inl (fun _ => 0))) := by rw [ew19]; exact fw_g.push g18_12
  have g19_13 : fw_g w19 13 (.inl (2, [.ref 1, .ref 14, .int 0, .int 0, .int 0, .int 0, .int 0])) := by rw [ew19]; exact fw_g.push g18_13
  have g19_14 : fw_g w19 14 (.inr (6, .inl (fun _ => 0))) := by rw [ew19]; exact fw_g.push g18_14
  have g19_15 : fw_g w19 15 (.inl (0, [.ref 1])) := by rw [ew19]; exact fw_g.push g18_15
  have g19_16 : fw_g w19 16 (.inl (5, [.null])) := by rw [ew19, ← n18]; exact fw_g.new
  have n19 : w19.1 = 17 := by rw [ew19]; show w18.1 + 1 = _; omega
  have f19 : fw_wf w19 := by rw [ew19]; exact f18.push (by intro v hv r hr; subst hr; simp at hv)
  have x19 : kx w w19 16 (fun k => k = 0) := by rw [ew19]; exact x18.push _
  obtain ⟨w20, K20, y20, h20_0, h20_1, f20⟩ := c_X5_init (o := 16) g19_16 n19 f19
  have g20_0 : fw_g w20 0 (.inl (7, [.ref 1, .ref 3, .ref 5, .ref 7, .ref 13, .ref 15, .null])) := y20.g (by omega) g19_0
  have g20_1 : fw_g w20 1 (.inl (6, [.ref 2, .int (iI ((2 : Nat) : Int))])) := y20.g (by omega) g19_1
  have g20_2 : fw_g w20 2 (.inr (36, .inl fa2)) := y20.g (by omega) g19_2
  have g20_3 : fw_g w20 3 (.inl (1, [.ref 1, .ref 4, .int 0, .int 0])) := y20.g (by omega) g19_3
  have g20_4 : fw_g w20 4 (.inr (6, .inl (fun _ => 0))) := y20.g (by omega) g19_4
  have g20_5 : fw_g w20 5 (.inl (3, [.ref 1, .ref 6])) := y20.g (by omega) g19_5
  have g20_6 : fw_g w20 6 (.inr (32, .inr (fun _ => 0))) := y20.g (by omega) g19_6
  have g20_7 : fw_g w20 7 (.inl (4, [.ref 1, .ref 8, .ref 10, .ref 12])) := y20.g (by omega) g19_7
  have g20_8 : fw_g w20 8 (.inl (6, [.ref 9, .int (iI ((2 : Nat) : Int))])) := y20.g (by omega) g19_8
  have g20_9 : fw_g w20 9 (.inr (36, .inl fb)) := y20.g (by omega) g19_9
  have g20_10 : fw_g w20 10 (.inl (1, [.ref 8, .ref 11, .int 0, .int 0])) := y20.g (by omega) g19_10
  have g20_11 : fw_g w20 11 (.inr (6, .inl (fun _ => 0))) := y20.g (by omega) g19_11
  have g20_12 : fw_g w20 12 (.inr (64, .inl (fun _ => 0))) := y20.g (by omega) g19_12
  have g20_13 : fw_g w20 13 (.inl (2, [.ref 1, .ref 14, .int 0, .int 0, .int 0, .int 0, .int 0])) := y20.g (by omega) g19_13
  have g20_14 : fw_g w20 14 (.inr (6, .inl (fun _ => 0))) := y20.g (by omega) g19_14
  have g20_15 : fw_g w20 15 (.inl (0, [.ref 1])) := y20.g (by omega) g19_15
  have g20_16 : fw_g w20 16 (.inl (5, [.ref 17])) := h20_0
  have g20_17 : fw_g w20 17 (.inr (10, .inl (fun _ => 0))) := h20_1
  have n20 : w20.1 = 18 := by have := y20.1; omega
  have x20 : kx w w20 17 (fun k => k = 0) := x19.kx y20 (fun k hk => by omega)
  obtain ⟨w21, ew21⟩ : ∃ x, x = fw_up w20 0 (.inl (7, [.ref 1, .ref 3, .ref 5, .ref 7, .ref 13, .ref 15, .ref 16])) := ⟨_, rfl⟩
  have g21_1 : fw_g w21 1 (.inl (6, [.ref 2, .int (iI ((2 : Nat) : Int))])) := by rw [ew21]; exact g20_1.ne _ (by omega)
  have g21_2 : fw_g w21 2 (.inr (36, .inl fa2)) := by rw [ew21]; exact g20_2.ne _ (by omega)
  have g21_3 : fw_g w21 3 (.inl (1, [.ref 1, .ref 4, .int 0, .int 0])) := by rw [ew21]; exact g20_3.ne _ (by omega)
  have g21_4 : fw_g w21 4 (.inr (6, .inl (fun _ => 0))) := by rw [ew21]; exact g20_4.ne _ (by omega)
  have g21_5 : fw_g w21 5 (.inl (3, [.ref 1, .ref 6])) := by rw [ew21]; exact g20_5.ne _ (by omega)
  have g21_6 : fw_g w21 6 (.inr (32, .inr (fun _ => 0))) := by rw [ew21]; exact g20_6.ne _ (by omega)
  have g21_7 : fw_g w21 7 (.inl (4, [.ref 1, .ref 8, .ref 10, .ref 12])) := by rw [ew21]; exact g20_7.ne _ (by omega)
  have g21_8 : fw_g w21 8 (.inl (6, [.ref 9, .int (iI ((2 : Nat) : Int))])) := by rw [ew21]; exact g20_8.ne _ (by omega)
  have g21_9 : fw_g w21 9 (.inr (36, .inl fb)) := by rw [ew21]; exact g20_9.ne _ (by omega)
  have g21_10 : fw_g w21 10 (.inl (1, [.ref 8, .ref 11, .int 0, .int 0])) := by rw [ew21]; exact g20_10.ne _ (by omega)
  have g21_11 : fw_g w21 11 (.inr (6, .inl (fun _ => 0))) := by rw [ew21]; exact g20_11.ne _ (by omega)
  have g21_12 : fw_g w21 12 (.inr (64, .inl (fun _ => 0))) := by rw [ew21]; exact g20_12.ne _ (by omega)
  have g21_13 : fw_g w21 13 (.inl (2, [.ref 1, .ref 14, .int 0, .int 0, .int 0, .int 0, .int 0])) := by rw [ew21]; exact g20_13.ne _ (by omega)
  have g21_14 : fw_g w21 14 (.inr (6, .inl (fun _ => 0))) := by rw [ew21]; exact g20_14.ne _ (by omega)
  have g21_15 : fw_g w21 15 (.inl (0, [.ref 1])) := by rw [ew21]; exact g20_15.ne _ (by omega)
  have g21_16 : fw_g w21 16 (.inl (5, [.ref 17])) := by rw [ew21]; exact g20_16.ne _ (by omega)
  have g21_17 : fw_g w21 17 (.inr (10, .inl (fun _ => 0))) := by rw [ew21]; exact g20_17.ne _ (by omega)
  have g21_0 : fw_g w21 0 (.inl (7, [.ref 1, .ref 3, .ref 5, .ref 7, .ref 13, .ref 15, .ref 16])) := by rw [ew21]; exact g20_0.up _
  have n21 : w21.1 = 18 := by rw [ew21]; exact n20
  have f21 : fw_wf w21 := by
    rw [ew21]
    refine fw_up_wf f20 (fun v hv r hr => ?_)
    subst hr
    simp only [List.mem_cons, Value.ref.injEq, reduceCtorEq, false_or, or_false, List.not_mem_nil] at hv
    have hv : @Eq Nat r 1 ∨ @Eq Nat r 3 ∨ @Eq Nat r 5 ∨ @Eq Nat r 7 ∨ @Eq Nat r 13 ∨ @Eq Nat r 15 ∨ @Eq Nat r 16 := hv
    show @LT.lt Nat _ r w20.1
    omega
  have x21 : kx w w21 17 (fun k => k = 0) := by rw [ew21]; exact x20.up _ (by omega)
  refine ⟨w21, ?_, x21, ⟨g21_0, ⟨g21_1, ⟨_, g21_2, da2⟩, by decide, by decide⟩, ⟨⟨0, 0, g21_3⟩, _, g21_4⟩, ⟨g21_5, _, g21_6⟩, ⟨g21_7, ⟨_, g21_8⟩, ⟨_, g21_9⟩, ⟨0, 0, g21_10⟩, ⟨_, g21_11⟩, ⟨_, g21_12⟩⟩, ⟨⟨0, 0, 0, 0, 0, g21_13⟩, _, g21_14⟩, g21_15, g21_16, g21_17⟩, f21⟩
  refine fa_K.of (by decide) (by omega) f0 (Nat.le_of_ble_eq_true rfl) (fun p l e s m args below meth c g0 ls C hin Z hl => ?_)
  obtain ⟨_, hin1, hin2⟩ := hin
  have hin : meth.name = "<init>" := hin2.trans (hin1.symm.trans rfl)
  skip
  have eo : fw_ad g0 0 = fw_ad g0 0 := rfl
  refine lv_aload_n C.1 C.2.1 dX7_init_0 rfl (lv_at hl 0 rfl) ?_
  refine fx_obj C dX7_init_1 (okm (i := 49) rfl rfl) (okm (i := 50) rfl rfl) (okm (i := 51) rfl rfl) hl.1 (Nat.le_of_ble_eq_true rfl) (by decide) ?_
  refine lv_aload_n C.1 C.2.1 dX7_init_4 rfl (lv_at hl 0 rfl) ?_
  refine fx_new C Z (ci := 6) (fs := [.null, .int 0]) dX7_init_5 rfl inX6 tyX6 tyX6_ok (okm (i := 52) rfl rfl) (okm (i := 53) rfl rfl) (okm (i := 34) rfl rfl) (fun j hj => by rcases (show j = 0 ∨ j = 1 by omega) with rfl | rfl <;> rfl) (fun _ => rfl) (by decide) (by decide) (fun ad q1 H ha hq Z => ?_)
  rw [← ew1] at Z
  rw [n0] at hq
  have eo := (ha 0 (by omega)).trans eo
  have e1 := hq
  refine lv_dup C.1 C.2.1 dX7_init_8 rfl ?_
  refine fx_callI C Z (As' := []) iX7_init_9 K2 (by omega) (by decide) rfl rfl e1 rfl (Nat.le_of_ble_eq_true rfl) hl.1 (by decide) (by decide) f2 (fun ad H locs ha Z => ?_)
  have eo := (ha 0 (by omega)).trans eo
  have e1 := (ha 1 (by omega)).trans e1
  refine fx_putF C hin Z gX7_init_12 (fs' := [.ref 1, .null, .null, .null, .null, .null, .null]) g2_0 eo e1 (by omega) (by simp) rfl (fun H locs Z => ?_)
  rw [← ew3] at Z
  refine lv_aload_n C.1 C.2.1 dX7_init_15 rfl (lv_at hl 0 rfl) ?_
  refine fx_new C Z (ci := 1) (fs := [.null, .null, .int 0, .int 0]) dX7_init_16 rfl inX1 tyX1 tyX1_ok (okm (i := 76) rfl rfl) (okm (i := 77) rfl rfl) (okm (i := 35) rfl rfl) (fun j hj => by rcases (show j = 0 ∨ j = 1 ∨ j = 2 ∨ j = 3 by omega) with rfl | rfl | rfl | rfl <;> rfl) (fun _ => rfl) (by decide) (by decide) (fun ad q4 H ha hq Z => ?_)
  rw [← ew4] at Z
  rw [n3] at hq
  have eo := (ha 0 (by omega)).trans eo
  have e1 := (ha 1 (by omega)).trans e1
  have e4 := hq
  refine lv_dup C.1 C.2.1 dX7_init_19 rfl ?_
  refine lv_aload_n C.1 C.2.1 dX7_init_20 rfl (lv_at hl 0 rfl) ?_
  refine fx_get C Z fX7_init_21 g4_0 rfl eo e1 ?_
  refine fx_callI C Z (As' := [.ref q1]) iX7_init_24 K5 (by omega) (by decide) rfl (by show [Value.ref (ad 1)] = _; rw [e1]) e4 rfl (Nat.le_of_ble_eq_true rfl) hl.1 (by decide) (by decide) f5 (fun ad H locs ha Z => ?_)
  have eo := (ha 0 (by omega)).trans eo
  have e1 := (ha 1 (by omega)).trans e1
  have e4 := (ha 3 (by omega)).trans e4
  refine fx_putF C hin Z gX7_init_27 (fs' := [.ref 1, .ref 3, .null, .null, .null, .null, .null]) g5_0 eo e4 (by omega) (by simp) rfl (fun H locs Z => ?_)
  rw [← ew6] at Z
  refine lv_aload_n C.1 C.2.1 dX7_init_30 rfl (lv_at hl 0 rfl) ?_
  refine fx_new C Z (ci := 3) (fs := [.null, .null]) dX7_init_31 rfl inX3 tyX3 tyX3_ok (okm (i := 98) rfl rfl) (okm (i := 99) rfl rfl) (okm (i := 36) rfl rfl) (fun j hj => by rcases (show j = 0 ∨ j = 1 by omega) with rfl | rfl <;> rfl) (fun _ => rfl) (by decide) (by decide) (fun ad q7 H ha hq Z => ?_)
  rw [← ew7] at Z
  rw [n6] at hq
  have eo := (ha 0 (by omega)).trans eo
  have e1 := (ha 1 (by omega)).trans e1
  have e4 := (ha 3 (by omega)).trans e4
  have e7 := hq
  refine lv_dup C.1 C.2.1 dX7_init_34 rfl ?_
  refine lv_aload_n C.1 C.2.1 dX7_init_35 rfl (lv_at hl 0 rfl) ?_
  refine fx_get C Z fX7_init_36 g7_0 rfl eo e1 ?_
  refine fx_callI C Z (As' := [.ref q1]) iX7_init_39 K8 (by omega) (by decide) rfl (by show [Value.ref (ad 1)] = _; rw [e1]) e7 rfl (Nat.le_of_ble_eq_true rfl) hl.1 (by decide) (by decide) f8 (fun ad H locs ha Z => ?_)
  have eo := (ha 0 (by omega)).trans eo
  have e1 := (ha 1 (by omega)).trans e1
  have e4 := (ha 3 (by omega)).trans e4
  have e7 := (ha 5 (by omega)).trans e7
  refine fx_putF C hin Z gX7_init_42 (fs' := [.ref 1, .ref 3, .ref 5, .null, .null, .null, .null]) g8_0 eo e7 (by omega) (by simp) rfl (fun H locs Z => ?_)
  rw [← ew9] at Z
  refine lv_aload_n C.1 C.2.1 dX7_init_45 rfl (lv_at hl 0 rfl) ?_
  refine fx_new C Z (ci := 4) (fs := [.null, .null, .null, .null]) dX7_init_46 rfl inX4 tyX4 tyX4_ok (okm (i := 112) rfl rfl) (okm (i := 113) rfl rfl) (okm (i := 37) rfl rfl) (fun j hj => by rcases (show j = 0 ∨ j = 1 ∨ j = 2 ∨ j = 3 by omega) with rfl | rfl | rfl | rfl <;> rfl) (fun _ => rfl) (by decide) (by decide) (fun ad q10 H ha hq Z => ?_)
  rw [← ew10] at Z
  rw [n9] at hq
  have eo := (ha 0 (by omega)).trans eo
  have e1 := (ha 1 (by omega)).trans e1
  have e4 := (ha 3 (by omega)).trans e4
  have e7 := (ha 5 (by omega)).trans e7
  have e10 := hq
  refine lv_dup C.1 C.2.1 dX7_init_49 rfl ?_
  refine lv_aload_n C.1 C.2.1 dX7_init_50 rfl (lv_at hl 0 rfl) ?_
  refine fx_get C Z fX7_init_51 g10_0 rfl eo e1 ?_
  refine fx_callI C Z (As' := [.ref q1]) iX7_init_54 K11 (by omega) (by decide) rfl (by show [Value.ref (ad 1)] = _; rw [e1]) e10 rfl (Nat.le_of_ble_eq_true rfl) hl.1 (by decide) (by decide) f11 (fun ad H locs ha Z => ?_)
  have eo := (ha 0 (by omega)).trans eo
  have e1 := (ha 1 (by omega)).trans e1
  have e4 := (ha 3 (by omega)).trans e4
  have e7 := (ha 5 (by omega)).trans e7
  have e10 := (ha 7 (by omega)).trans e10
  refine fx_putF C hin Z gX7_init_57 (fs' := [.ref 1, .ref 3, .ref 5, .ref 7, .null, .null, .null]) g11_0 eo e10 (by omega) (by simp) rfl (fun H locs Z => ?_)
  rw [← ew12] at Z
  refine lv_aload_n C.1 C.2.1 dX7_init_60 rfl (lv_at hl 0 rfl) ?_
  refine fx_new C Z (ci := 2) (fs := [.null, .null, .int 0, .int 0, .int 0, .int 0, .int 0]) dX7_init_61 rfl inX2 tyX2 tyX2_ok (okm (i := 137) rfl rfl) (okm (i := 138) rfl rfl) (okm (i := 38) rfl rfl) (fun j hj => by rcases (show j = 0 ∨ j = 1 ∨ j = 2 ∨ j = 3 ∨ j = 4 ∨ j = 5 ∨ j = 6 by omega) with rfl | rfl | rfl | rfl | rfl | rfl | rfl <;> rfl) (fun _ => rfl) (by decide) (by decide) (fun ad q13 H ha hq Z => ?_)
  rw [← ew13] at Z
  rw [n12] at hq
  have eo := (ha 0 (by omega)).trans eo
  have e1 := (ha 1 (by omega)).trans e1
  have e4 := (ha 3 (by omega)).trans e4
  have e7 := (ha 5 (by omega)).trans e7
  have e10 := (ha 7 (by omega)).trans e10
  have e13 := hq
  refine lv_dup C.1 C.2.1 dX7_init_64 rfl ?_
  refine lv_aload_n C.1 C.2.1 dX7_init_65 rfl (lv_at hl 0 rfl) ?_
  refine fx_get C Z fX7_init_66 g13_0 rfl eo e1 ?_
  refine fx_callI C Z (As' := [.ref q1]) iX7_init_69 K14 (by omega) (by decide) rfl (by show [Value.ref (ad 1)] = _; rw [e1]) e13 rfl (Nat.le_of_ble_eq_true rfl) hl.1 (by decide) (by decide) f14 (fun ad H locs ha Z => ?_)
  have eo := (ha 0 (by omega)).trans eo
  have e1 := (ha 1 (by omega)).trans e1
  have e4 := (ha 3 (by omega)).trans e4
  have e7 := (ha 5 (by omega)).trans e7
  have e10 := (ha 7 (by omega)).trans e10
  have e13 := (ha 13 (by omega)).trans e13
  refine fx_putF C hin Z gX7_init_72 (fs' := [.ref 1, .ref 3, .ref 5, .ref 7, .ref 13, .null, .null]) g14_0 eo e13 (by omega) (by simp) rfl (fun H locs Z => ?_)
  rw [← ew15] at Z
  refine lv_aload_n C.1 C.2.1 dX7_init_75 rfl (lv_at hl 0 rfl) ?_
  refine fx_new C Z (ci := 0) (fs := [.null]) dX7_init_76 rfl inX0 tyX0 tyX0_ok (okm (i := 166) rfl rfl) (okm (i := 167) rfl rfl) (okm (i := 39) rfl rfl) (fun j hj => by rcases (show j = 0 by omega) with rfl <;> rfl) (fun _ => rfl) (by decide) (by decide) (fun ad q16 H ha hq Z => ?_)
  rw [← ew16] at Z
  rw [n15] at hq
  have eo := (ha 0 (by omega)).trans eo
  have e1 := (ha 1 (by omega)).trans e1
  have e4 := (ha 3 (by omega)).trans e4
  have e7 := (ha 5 (by omega)).trans e7
  have e10 := (ha 7 (by omega)).trans e10
  have e13 := (ha 13 (by omega)).trans e13
  have e16 := hq
  refine lv_dup C.1 C.2.1 dX7_init_79 rfl ?_
  refine lv_aload_n C.1 C.2.1 dX7_init_80 rfl (lv_at hl 0 rfl) ?_
  refine fx_get C Z fX7_init_81 g16_0 rfl eo e1 ?_
  refine fx_callI C Z (As' := [.ref q1]) iX7_init_84 K17 (by omega) (by decide) rfl (by show [Value.ref (ad 1)] = _; rw [e1]) e16 rfl (Nat.le_of_ble_eq_true rfl) hl.1 (by decide) (by decide) f17 (fun ad H locs ha Z => ?_)
  have eo := (ha 0 (by omega)).trans eo
  have e1 := (ha 1 (by omega)).trans e1
  have e4 := (ha 3 (by omega)).trans e4
  have e7 := (ha 5 (by omega)).trans e7
  have e10 := (ha 7 (by omega)).trans e10
  have e13 := (ha 13 (by omega)).trans e13
  have e16 := (ha 15 (by omega)).trans e16
  refine fx_putF C hin Z gX7_init_87 (fs' := [.ref 1, .ref 3, .ref 5, .ref 7, .ref 13, .ref 15, .null]) g17_0 eo e16 (by omega) (by simp) rfl (fun H locs Z => ?_)
  rw [← ew18] at Z
  refine lv_aload_n C.1 C.2.1 dX7_init_90 rfl (lv_at hl 0 rfl) ?_
  refine fx_new C Z (ci := 5) (fs := [.null]) dX7_init_91 rfl inX5 tyX5 tyX5_ok (okm (i := 176) rfl rfl) (okm (i := 177) rfl rfl) (okm (i := 40) rfl rfl) (fun j hj => by rcases (show j = 0 by omega) with rfl <;> rfl) (fun _ => rfl) (by decide) (by decide) (fun ad q19 H ha hq Z => ?_)
  rw [← ew19] at Z
  rw [n18] at hq
  have eo := (ha 0 (by omega)).trans eo
  have e1 := (ha 1 (by omega)).trans e1
  have e4 := (ha 3 (by omega)).trans e4
  have e7 := (ha 5 (by omega)).trans e7
  have e10 := (ha 7 (by omega)).trans e10
  have e13 := (ha 13 (by omega)).trans e13
  have e16 := (ha 15 (by omega)).trans e16
  have e19 := hq
  refine lv_dup C.1 C.2.1 dX7_init_94 rfl ?_
  refine fx_callI C Z (As' := []) iX7_init_95 K20 (by omega) (by decide) rfl rfl e19 rfl (Nat.le_of_ble_eq_true rfl) hl.1 (by decide) (by decide) f20 (fun ad H locs ha Z => ?_)
  have eo := (ha 0 (by omega)).trans eo
  have e1 := (ha 1 (by omega)).trans e1
  have e4 := (ha 3 (by omega)).trans e4
  have e7 := (ha 5 (by omega)).trans e7
  have e10 := (ha 7 (by omega)).trans e10
  have e13 := (ha 13 (by omega)).trans e13
  have e16 := (ha 15 (by omega)).trans e16
  have e19 := (ha 16 (by omega)).trans e19
  refine fx_putF C hin Z gX7_init_98 (fs' := [.ref 1, .ref 3, .ref 5, .ref 7, .ref 13, .ref 15, .ref 16]) g20_0 eo e19 (by omega) (by simp) rfl (fun H locs Z => ?_)
  rw [← ew21] at Z
  exact fx_ret C Z rfl dX7_init_101 rfl (by decide) (by decide)
set_option maxRecDepth 20000 in
theorem c_X8_init {w : fw_S} (g0_18 : fw_g w 18 (.inl (8, [.int 0, .null, .null, .null, .null, .null, .null, .null, .int 0, .int 0]))) (n0 : w.1 = 19) (f0 : fw_wf w) : ∃ w' : fw_S, fa_K 1 7 189 mX8_init [.ref 18] w w' ∧ kx w w' 7 (fun k => k = 18) ∧ WM w' 2 D1 (fun _ => 0) ∧ fw_wf w' := by
  have x0 : kx w w 0 (fun k => k = 18) := kx.rf
  obtain ⟨w1, ew1⟩ : ∃ x, x = fw_up w 18 (.inl (8, [.int (iI ((2 : Nat) : Int)), .null, .null, .null, .null, .null, .null, .null, .int 0, .int 0])) := ⟨_, rfl⟩
  have g1_18 : fw_g w1 18 (.inl (8, [.int (iI ((2 : Nat) : Int)), .null, .null, .null, .null, .null, .null, .null, .int 0, .int 0])) := by rw [ew1]; exact g0_18.up _
  have n1 : w1.1 = 19 := by rw [ew1]; exact n0
  have f1 : fw_wf w1 := by
    rw [ew1]
    refine fw_up_wf f0 (fun v hv r hr => ?_)
    subst hr
    simp only [List.mem_cons, Value.ref.injEq, reduceCtorEq, false_or, or_false, List.not_mem_nil] at hv
  have x1 : kx w w1 0 (fun k => k = 18) := by rw [ew1]; exact x0.up _ (by omega)
  obtain ⟨w2, ew2⟩ : ∃ x, x = fw_push w1 (.inr (36, .inl (fun _ => 0))) := ⟨_, rfl⟩
  have g2_18 : fw_g w2 18 (.inl (8, [.int (iI ((2 : Nat) : Int)), .null, .null, .null, .null, .null, .null, .null, .int 0, .int 0])) := by rw [ew2]; exact fw_g.push g1_18
  have g2_19 : fw_g w2 19 (.inr (36, .inl (fun _ => 0))) := by rw [ew2, ← n1]; exact fw_g.new
  have n2 : w2.1 = 20 := by rw [ew2]; show w1.1 + 1 = _; omega
  have f2 : fw_wf w2 := by rw [ew2]; exact f1.push trivial
  have x2 : kx w w2 1 (fun k => k = 18) := by rw [ew2]; exact x1.push _
  obtain ⟨w3, ew3⟩ : ∃ x, x = fw_up w2 18 (.inl (8, [.int (iI ((2 : Nat) : Int)), .ref 19, .null, .null, .null, .null, .null, .null, .int 0, .int 0])) := ⟨_, rfl⟩
  have g3_19 : fw_g w3 19 (.inr (36, .inl (fun _ => 0))) := by rw [ew3]; exact g2_19.ne _ (by omega)
  have g3_18 : fw_g w3 18 (.inl (8, [.int (iI ((2 : Nat) : Int)), .ref 19, .null, .null, .null, .null, .null, .null, .int 0, .int 0])) := by rw [ew3]; exact g2_18.up _
  have n3 : w3.1 = 20 := by rw [ew3]; exact n2
  have f3 : fw_wf w3 := by
    rw [ew3]
    refine fw_up_wf f2 (fun v hv r hr => ?_)
    subst hr
    simp only [List.mem_cons, Value.ref.injEq, reduceCtorEq, false_or, or_false, List.not_mem_nil] at hv
    have hv : @Eq Nat r 19 := hv
    show @LT.lt Nat _ r w2.1
    omega
  have x3 : kx w w3 1 (fun k => k = 18) := by rw [ew3]; exact x2.up _ (by omega)
  obtain ⟨w4, ew4⟩ : ∃ x, x = fw_push w3 (.inr (36, .inl (fun _ => 0))) := ⟨_, rfl⟩
  have g4_18 : fw_g w4 18 (.inl (8, [.int (iI ((2 : Nat) : Int)), .ref 19, .null, .null, .null, .null, .null, .null, .int 0, .int 0])) := by rw [ew4]; exact fw_g.push g3_18
  have g4_19 : fw_g w4 19 (.inr (36, .inl (fun _ => 0))) := by rw [ew4]; exact fw_g.push g3_19
  have g4_20 : fw_g w4 20 (.inr (36, .inl (fun _ => 0))) := by rw [ew4, ← n3]; exact fw_g.new
  have n4 : w4.1 = 21 := by rw [ew4]; show w3.1 + 1 = _; omega
  have f4 : fw_wf w4 := by rw [ew4]; exact f3.push trivial
  have x4 : kx w w4 2 (fun k => k = 18) := by rw [ew4]; exact x3.push _
  obtain ⟨w5, ew5⟩ : ∃ x, x = fw_up w4 18 (.inl (8, [.int (iI ((2 : Nat) : Int)), .ref 19, .ref 20, .null, .null, .null, .null, .null, .int 0, .int 0])) := ⟨_, rfl⟩
  have g5_19 : fw_g w5 19 (.inr (36, .inl (fun _ => 0))) := by rw [ew5]; exact g4_19.ne _ (by omega)
  have g5_20 : fw_g w5 20 (.inr (36, .inl (fun _ => 0))) := by rw [ew5]; exact g4_20.ne _ (by omega)
  have g5_18 : fw_g w5 18 (.inl (8, [.int (iI ((2 : Nat) : Int)), .ref 19, .ref 20, .null, .null, .null, .null, .null, .int 0, .int 0])) := by rw [ew5]; exact g4_18.up _
  have n5 : w5.1 = 21 := by rw [ew5]; exact n4
  have f5 : fw_wf w5 := by
    rw [ew5]
    refine fw_up_wf f4 (fun v hv r hr => ?_)
    subst hr
    simp only [List.mem_cons, Value.ref.injEq, reduceCtorEq, false_or, or_false, List.not_mem_nil] at hv
    have hv : @Eq Nat r 19 ∨ @Eq Nat r 20 := hv
    show @LT.lt Nat _ r w4.1
    omega
  have x5 : kx w w5 2 (fun k => k = 18) := by rw [ew5]; exact x4.up _ (by omega)
  obtain ⟨w6, ew6⟩ : ∃ x, x = fw_push w5 (.inr (64, .inl (fun _ => 0))) := ⟨_, rfl⟩
  have g6_18 : fw_g w6 18 (.inl (8, [.int (iI ((2 : Nat) : Int)), .ref 19, .ref 20, .null, .null, .null, .null, .null, .int 0, .int 0])) := by rw [ew6]; exact fw_g.push g5_18
  have g6_19 : fw_g w6 19 (.inr (36, .inl (fun _ => 0))) := by rw [ew6]; exact fw_g.push g5_19
  have g6_20 : fw_g w6 20 (.inr (36, .inl (fun _ => 0))) := by rw [ew6]; exact fw_g.push g5_20
  have g6_21 : fw_g w6 21 (.inr (64, .inl (fun _ => 0))) := by rw [ew6, ← n5]; exact fw_g.new
  have n6 : w6.1 = 22 := by rw [ew6]; show w5.1 + 1 = _; omega
  have f6 : fw_wf w6 := by rw [ew6]; exact f5.push trivial
  have x6 : kx w w6 3 (fun k => k = 18) := by rw [ew6]; exact x5.push _
  obtain ⟨w7, ew7⟩ : ∃ x, x = fw_up w6 18 (.inl (8, [.int (iI ((2 : Nat) : Int)), .ref 19, .ref 20, .ref 21, .null, .null, .null, .null, .int 0, .int 0])) := ⟨_, rfl⟩
  have g7_19 : fw_g w7 19 (.inr (36, .inl (fun _ => 0))) := by rw [ew7]; exact g6_19.ne _ (by omega)
  have g7_20 : fw_g w7 20 (.inr (36, .inl (fun _ => 0))) := by rw [ew7]; exact g6_20.ne _ (by omega)
  have g7_21 : fw_g w7 21 (.inr (64, .inl (fun _ => 0))) := by rw [ew7]; exact g6_21.ne _ (by omega)
  have g7_18 : fw_g w7 18 (.inl (8, [.int (iI ((2 : Nat) : Int)), .ref 19, .ref 20, .ref 21, .null, .null, .null, .null, .int 0, .int 0])) := by rw [ew7]; exact g6_18.up _
  have n7 : w7.1 = 22 := by rw [ew7]; exact n6
  have f7 : fw_wf w7 := by
    rw [ew7]
    refine fw_up_wf f6 (fun v hv r hr => ?_)
    subst hr
    simp only [List.mem_cons, Value.ref.injEq, reduceCtorEq, false_or, or_false, List.not_mem_nil] at hv
    have hv : @Eq Nat r 19 ∨ @Eq Nat r 20 ∨ @Eq Nat r 21 := hv
    show @LT.lt Nat _ r w6.1
    omega
  have x7 : kx w w7 3 (fun k => k = 18) := by rw [ew7]; exact x6.up _ (by omega)
  obtain ⟨w8, ew8⟩ : ∃ x, x = fw_push w7 (.inr (10, .inl (fun _ => 0))) := ⟨_, rfl⟩
  have g8_18 : fw_g w8 18 (.inl (8, [.int (iI ((2 : Nat) : Int)), .ref 19, .ref 20, .ref 21, .null, .null, .null, .null, .int 0, .int 0])) := by rw [ew8]; exact fw_g.push g7_18
  have g8_19 : fw_g w8 19 (.inr (36, .inl (fun _ => 0))) := by rw [ew8]; exact fw_g.push g7_19
  have g8_20 : fw_g w8 20 (.inr (36, .inl (fun _ => 0))) := by rw [ew8]; exact fw_g.push g7_20
  have g8_21 : fw_g w8 21 (.inr (64, .inl (fun _ => 0))) := by rw [ew8]; exact fw_g.push g7_21
  have g8_22 : fw_g w8 22 (.inr (10, .inl (fun _ => 0))) := by rw [ew8, ← n7]; exact fw_g.new
  have n8 : w8.1 = 23 := by rw [ew8]; show w7.1 + 1 = _; omega
  have f8 : fw_wf w8 := by rw [ew8]; exact f7.push trivial
  have x8 : kx w w8 4 (fun k => k = 18) := by rw [ew8]; exact x7.push _
  obtain ⟨w9, ew9⟩ : ∃ x, x = fw_up w8 18 (.inl (8, [.int (iI ((2 : Nat) : Int)), .ref 19, .ref 20, .ref 21, .ref 22, .null, .null, .null, .int 0, .int 0])) := ⟨_, rfl⟩
  have g9_19 : fw_g w9 19 (.inr (36, .inl (fun _ => 0))) := by rw [ew9]; exact g8_19.ne _ (by omega)
  have g9_20 : fw_g w9 20 (.inr (36, .inl (fun _ => 0))) := by rw [ew9]; exact g8_20.ne _ (by omega)
  have g9_21 : fw_g w9 21 (.inr (64, .inl (fun _ => 0))) := by rw [ew9]; exact g8_21.ne _ (by omega)
  have g9_22 : fw_g w9 22 (.inr (10, .inl (fun _ => 0))) := by rw [ew9]; exact g8_22.ne _ (by omega)
  have g9_18 : fw_g w9 18 (.inl (8, [.int (iI ((2 : Nat) : Int)), .ref 19, .ref 20, .ref 21, .ref 22, .null, .null, .null, .int 0, .int 0])) := by rw [ew9]; exact g8_18.up _
  have n9 : w9.1 = 23 := by rw [ew9]; exact n8
  have f9 : fw_wf w9 := by
    rw [ew9]
    refine fw_up_wf f8 (fun v hv r hr => ?_)
    subst hr
    simp only [List.mem_cons, Value.ref.injEq, reduceCtorEq, false_or, or_false, List.not_mem_nil] at hv
    have hv : @Eq Nat r 19 ∨ @Eq Nat r 20 ∨ @Eq Nat r 21 ∨ @Eq Nat r 22 := hv
    show @LT.lt Nat _ r w8.1
    omega
  have x9 : kx w w9 4 (fun k => k = 18) := by rw [ew9]; exact x8.up _ (by omega)
  obtain ⟨w10, ew10⟩ : ∃ x, x = fw_push w9 (.inr (5, .inl (fun _ => 0))) := ⟨_, rfl⟩
  have g10_18 : fw_g w10 18 (.inl (8, [.int (iI ((2 : Nat) : Int)), .ref 19, .ref 20, .ref 21, .ref 22, .null, .null, .null, .int 0, .int 0])) := by rw [ew10]; exact fw_g.push g9_18
  have g10_19 : fw_g w10 19 (.inr (36, .inl (fun _ => 0))) := by rw [ew10]; exact fw_g.push g9_19
  have g10_20 : fw_g w10 20 (.inr (36, .inl (fun _ => 0))) := by rw [ew10]; exact fw_g.push g9_20
  have g10_21 : fw_g w10 21 (.inr (64, .inl (fun _ => 0))) := by rw [ew10]; exact fw_g.push g9_21
  have g10_22 : fw_g w10 22 (.inr (10, .inl (fun _ => 0))) := by rw [ew10]; exact fw_g.push g9_22
  have g10_23 : fw_g w10 23 (.inr (5, .inl (fun _ => 0))) := by rw [ew10, ← n9]; exact fw_g.new
  have n10 : w10.1 = 24 := by rw [ew10]; show w9.1 + 1 = _; omega
  have f10 : fw_wf w10 := by rw [ew10]; exact f9.push trivial
  have x10 : kx w w10 5 (fun k => k = 18) := by rw [ew10]; exact x9.push _
  obtain ⟨w11, ew11⟩ : ∃ x, x = fw_up w10 18 (.inl (8, [.int (iI ((2 : Nat) : Int)), .ref 19, .ref 20, .ref 21, .ref 22, .ref 23, .null, .null, .int 0, .int 0])) := ⟨_, rfl⟩
  have g11_19 : fw_g w11 19 (.inr (36, .inl (fun _ => 0))) := by rw [ew11]; exact g10_19.ne _ (by omega)
  have g11_20 : fw_g w11 20 (.inr (36, .inl (fun _ => 0))) := by rw [ew11]; exact g10_20.ne _ (by omega)
  have g11_21 : fw_g w11 21 (.inr (64, .inl (fun _ => 0))) := by rw [ew11]; exact g10_21.ne _ (by omega)
  have g11_22 : fw_g w11 22 (.inr (10, .inl (fun _ => 0))) := by rw [ew11]; exact g10_22.ne _ (by omega)
  have g11_23 : fw_g w11 23 (.inr (5, .inl (fun _ => 0))) := by rw [ew11]; exact g10_23.ne _ (by omega)
  have g11_18 : fw_g w11 18 (.inl (8, [.int (iI ((2 : Nat) : Int)), .ref 19, .ref 20, .ref 21, .ref 22, .ref 23, .null, .null, .int 0, .int 0])) := by rw [ew11]; exact g10_18.up _
  have n11 : w11.1 = 24 := by rw [ew11]; exact n10
  have f11 : fw_wf w11 := by
    rw [ew11]
    refine fw_up_wf f10 (fun v hv r hr => ?_)
    subst hr
    simp only [List.mem_cons, Value.ref.injEq, reduceCtorEq, false_or, or_false, List.not_mem_nil] at hv
    have hv : @Eq Nat r 19 ∨ @Eq Nat r 20 ∨ @Eq Nat r 21 ∨ @Eq Nat r 22 ∨ @Eq Nat r 23 := hv
    show @LT.lt Nat _ r w10.1
    omega
  have x11 : kx w w11 5 (fun k => k = 18) := by rw [ew11]; exact x10.up _ (by omega)
  obtain ⟨w12, ew12⟩ : ∃ x, x = fw_push w11 (.inr (32, .inr (fun _ => 0))) := ⟨_, rfl⟩
  have g12_18 : fw_g w12 18 (.inl (8, [.int (iI ((2 : Nat) : Int)), .ref 19, .ref 20, .ref 21, .ref 22, .ref 23, .null, .null, .int 0, .int 0])) := by rw [ew12]; exact fw_g.push g11_18
  have g12_19 : fw_g w12 19 (.inr (36, .inl (fun _ => 0))) := by rw [ew12]; exact fw_g.push g11_19
  have g12_20 : fw_g w12 20 (.inr (36, .inl (fun _ => 0))) := by rw [ew12]; exact fw_g.push g11_20
  have g12_21 : fw_g w12 21 (.inr (64, .inl (fun _ => 0))) := by rw [ew12]; exact fw_g.push g11_21
  have g12_22 : fw_g w12 22 (.inr (10, .inl (fun _ => 0))) := by rw [ew12]; exact fw_g.push g11_22
  have g12_23 : fw_g w12 23 (.inr (5, .inl (fun _ => 0))) := by rw [ew12]; exact fw_g.push g11_23
  have g12_24 : fw_g w12 24 (.inr (32, .inr (fun _ => 0))) := by rw [ew12, ← n11]; exact fw_g.new
  have n12 : w12.1 = 25 := by rw [ew12]; show w11.1 + 1 = _; omega
  have f12 : fw_wf w12 := by rw [ew12]; exact f11.push trivial
  have x12 : kx w w12 6 (fun k => k = 18) := by rw [ew12]; exact x11.push _
  obtain ⟨w13, ew13⟩ : ∃ x, x = fw_up w12 18 (.inl (8, [.int (iI ((2 : Nat) : Int)), .ref 19, .ref 20, .ref 21, .ref 22, .ref 23, .ref 24, .null, .int 0, .int 0])) := ⟨_, rfl⟩
  have g13_19 : fw_g w13 19 (.inr (36, .inl (fun _ => 0))) := by rw [ew13]; exact g12_19.ne _ (by omega)
  have g13_20 : fw_g w13 20 (.inr (36, .inl (fun _ => 0))) := by rw [ew13]; exact g12_20.ne _ (by omega)
  have g13_21 : fw_g w13 21 (.inr (64, .inl (fun _ => 0))) := by rw [ew13]; exact g12_21.ne _ (by omega)
  have g13_22 : fw_g w13 22 (.inr (10, .inl (fun _ => 0))) := by rw [ew13]; exact g12_22.ne _ (by omega)
  have g13_23 : fw_g w13 23 (.inr (5, .inl (fun _ => 0))) := by rw [ew13]; exact g12_23.ne _ (by omega)
  have g13_24 : fw_g w13 24 (.inr (32, .inr (fun _ => 0))) := by rw [ew13]; exact g12_24.ne _ (by omega)
  have g13_18 : fw_g w13 18 (.inl (8, [.int (iI ((2 : Nat) : Int)), .ref 19, .ref 20, .ref 21, .ref 22, .ref 23, .ref 24, .null, .int 0, .int 0])) := by rw [ew13]; exact g12_18.up _
  have n13 : w13.1 = 25 := by rw [ew13]; exact n12
  have f13 : fw_wf w13 := by
    rw [ew13]
    refine fw_up_wf f12 (fun v hv r hr => ?_)
    subst hr
    simp only [List.mem_cons, Value.ref.injEq, reduceCtorEq, false_or, or_false, List.not_mem_nil] at hv
    have hv : @Eq Nat r 19 ∨ @Eq Nat r 20 ∨ @Eq Nat r 21 ∨ @Eq Nat r 22 ∨ @Eq Nat r 23 ∨ @Eq Nat r 24 := hv
    show @LT.lt Nat _ r w12.1
    omega
  have x13 : kx w w13 6 (fun k => k = 18) := by rw [ew13]; exact x12.up _ (by omega)
  obtain ⟨w14, ew14⟩ : ∃ x, x = fw_push w13 (.inr (6, .inl (fun _ => 0))) := ⟨_, rfl⟩
  have g14_18 : fw_g w14 18 (.inl (8, [.int (iI ((2 : Nat) : Int)), .ref 19, .ref 20, .ref 21, .ref 22, .ref 23, .ref 24, .null, .int 0, .int 0])) := by rw [ew14]; exact fw_g.push g13_18
  have g14_19 : fw_g w14 19 (.inr (36, .inl (fun _ => 0))) := by rw [ew14]; exact fw_g.push g13_19
  have g14_20 : fw_g w14 20 (.inr (36, .inl (fun _ => 0))) := by rw [ew14]; exact fw_g.push g13_20
  have g14_21 : fw_g w14 21 (.inr (64, .inl (fun _ => 0))) := by rw [ew14]; exact fw_g.push g13_21
  have g14_22 : fw_g w14 22 (.inr (10, .inl (fun _ => 0))) := by rw [ew14]; exact fw_g.push g13_22
  have g14_23 : fw_g w14 23 (.inr (5, .inl (fun _ => 0))) := by rw [ew14]; exact fw_g.push g13_23
  have g14_24 : fw_g w14 24 (.inr (32, .inr (fun _ => 0))) := by rw [ew14]; exact fw_g.push g13_24
  have g14_25 : fw_g w14 25 (.inr (6, .inl (fun _ => 0))) := by rw [ew14, ← n13]; exact fw_g.new
  have n14 : w14.1 = 26 := by rw [ew14]; show w13.1 + 1 = _; omega
  have f14 : fw_wf w14 := by rw [ew14]; exact f13.push trivial
  have x14 : kx w w14 7 (fun k => k = 18) := by rw [ew14]; exact x13.push _
  obtain ⟨w15, ew15⟩ : ∃ x, x = fw_up w14 18 (.inl (8, [.int (iI ((2 : Nat) : Int)), .ref 19, .ref 20, .ref 21, .ref 22, .ref 23, .ref 24, .ref 25, .int 0, .int 0])) := ⟨_, rfl⟩
  have g15_19 : fw_g w15 19 (.inr (36, .inl (fun _ => 0))) := by rw [ew15]; exact g14_19.ne _ (by omega)
  have g15_20 : fw_g w15 20 (.inr (36, .inl (fun _ => 0))) := by rw [ew15]; exact g14_20.ne _ (by omega)
  have g15_21 : fw_g w15 21 (.inr (64, .inl (fun _ => 0))) := by rw [ew15]; exact g14_21.ne _ (by omega)
  have g15_22 : fw_g w15 22 (.inr (10, .inl (fun _ => 0))) := by rw [ew15]; exact g14_22.ne _ (by omega)
  have g15_23 : fw_g w15 23 (.inr (5, .inl (fun _ => 0))) := by rw [ew15]; exact g14_23.ne _ (by omega)
  have g15_24 : fw_g w15 24 (.inr (32, .inr (fun _ => 0))) := by rw [ew15]; exact g14_24.ne _ (by omega)
  have g15_25 : fw_g w15 25 (.inr (6, .inl (fun _ => 0))) := by rw [ew15]; exact g14_25.ne _ (by omega)
  have g15_18 : fw_g w15 18 (.inl (8, [.int (iI ((2 : Nat) : Int)), .ref 19, .ref 20, .ref 21, .ref 22, .ref 23, .ref 24, .ref 25, .int 0, .int 0])) := by rw [ew15]; exact g14_18.up _
  have n15 : w15.1 = 26 := by rw [ew15]; exact n14
  have f15 : fw_wf w15 := by
    rw [ew15]
    refine fw_up_wf f14 (fun v hv r hr => ?_)
    subst hr
    simp only [List.mem_cons, Value.ref.injEq, reduceCtorEq, false_or, or_false, List.not_mem_nil] at hv
    have hv : @Eq Nat r 19 ∨ @Eq Nat r 20 ∨ @Eq Nat r 21 ∨ @Eq Nat r 22 ∨ @Eq Nat r 23 ∨ @Eq Nat r 24 ∨ @Eq Nat r 25 := hv
    show @LT.lt Nat _ r w14.1
    omega
  have x15 : kx w w15 7 (fun k => k = 18) := by rw [ew15]; exact x14.up _ (by omega)
  obtain ⟨w16, K16, ⟨ff, gf, df⟩, p16⟩ := c_mfills (d := 0) g15_18 g15_19
  have g16_18 : fw_g w16 18 (.inl (8, [.int (iI ((2 : Nat) : Int)), .ref 19, .ref 20, .ref 21, .ref 22, .ref 23, .ref 24, .ref 25, .int 0, .int 0])) := p16.g (by decide) g15_18
  have g16_20 : fw_g w16 20 (.inr (36, .inl (fun _ => 0))) := p16.g (by decide) g15_20
  have g16_21 : fw_g w16 21 (.inr (64, .inl (fun _ => 0))) := p16.g (by decide) g15_21
  have g16_22 : fw_g w16 22 (.inr (10, .inl (fun _ => 0))) := p16.g (by decide) g15_22
  have g16_23 : fw_g w16 23 (.inr (5, .inl (fun _ => 0))) := p16.g (by decide) g15_23
  have g16_24 : fw_g w16 24 (.inr (32, .inr (fun _ => 0))) := p16.g (by decide) g15_24
  have g16_25 : fw_g w16 25 (.inr (6, .inl (fun _ => 0))) := p16.g (by decide) g15_25
  have n16 : w16.1 = 26 := p16.1.trans n15
  have f16 : fw_wf w16 := by
    refine f15.kp p16 (fun k hk hk2 => ?_)
    subst hk
    rw [gf.2]; exact trivial
  have x16 : kx w w16 7 (fun k => k = 18) := x15.kp p16 (fun k hk => by omega)
  refine ⟨w16, ?_, x16, ⟨⟨0, 0, g16_18, ⟨ff, gf, fun i j hi hj => d1_f df i j hi hj⟩, by decide, by decide⟩, ⟨_, g16_20⟩, ⟨_, g16_21⟩, g16_22, ⟨_, g16_23⟩, ⟨_, g16_24⟩, ⟨_, g16_25⟩⟩, f16⟩
  refine fa_K.of (by decide) (by omega) f0 (Nat.le_of_ble_eq_true rfl) (fun p l e s m args below meth c g0 ls C hin Z hl => ?_)
  obtain ⟨_, hin1, hin2⟩ := hin
  have hin : meth.name = "<init>" := hin2.trans (hin1.symm.trans rfl)
  skip
  have eo : fw_ad g0 18 = fw_ad g0 18 := rfl
  refine lv_aload_n C.1 C.2.1 dX8_init_0 rfl (lv_at hl 0 rfl) ?_
  refine fx_obj C dX8_init_1 (okm (i := 507) rfl rfl) (okm (i := 50) rfl rfl) (okm (i := 51) rfl rfl) hl.1 (Nat.le_of_ble_eq_true rfl) (by decide) ?_
  refine lv_aload_n C.1 C.2.1 dX8_init_4 rfl (lv_at hl 0 rfl) ?_
  refine lv_iconst (v := iI ((2 : Nat) : Int)) C.1 C.2.1 dX8_init_5 (by decide) ?_
  refine fx_putI C Z fX8_init_6 pfX8_0 (fs' := [.int (iI ((2 : Nat) : Int)), .null, .null, .null, .null, .null, .null, .null, .int 0, .int 0]) g0_18 eo (by simp) rfl (fun H locs Z => ?_)
  rw [← ew1] at Z
  refine lv_aload_n C.1 C.2.1 dX8_init_9 rfl (lv_at hl 0 rfl) ?_
  refine lv_bipush (v := iI ((36 : Nat) : Int)) C.1 C.2.1 dX8_init_10 (by decide) ?_
  refine fx_newaI C Z rfl (okm (i := 75) rfl rfl) 36 (by decide) dX8_init_12 (by decide) (by decide) (fun ad q2 H ha hq Z => ?_)
  rw [← ew2] at Z
  rw [n1] at hq
  have eo := (ha 18 (by omega)).trans eo
  have e2 := hq
  refine fx_putF C hin Z gX8_init_14 (fs' := [.int (iI ((2 : Nat) : Int)), .ref 19, .null, .null, .null, .null, .null, .null, .int 0, .int 0]) g2_18 eo e2 (by omega) (by simp) rfl (fun H locs Z => ?_)
  rw [← ew3] at Z
  refine lv_aload_n C.1 C.2.1 dX8_init_17 rfl (lv_at hl 0 rfl) ?_
  refine lv_bipush (v := iI ((36 : Nat) : Int)) C.1 C.2.1 dX8_init_18 (by decide) ?_
  refine fx_newaI C Z rfl (okm (i := 75) rfl rfl) 36 (by decide) dX8_init_20 (by decide) (by decide) (fun ad q4 H ha hq Z => ?_)
  rw [← ew4] at Z
  rw [n3] at hq
  have eo := (ha 18 (by omega)).trans eo
  have e2 := (ha 19 (by omega)).trans e2
  have e4 := hq
  refine fx_putF C hin Z gX8_init_22 (fs' := [.int (iI ((2 : Nat) : Int)), .ref 19, .ref 20, .null, .null, .null, .null, .null, .int 0, .int 0]) g4_18 eo e4 (by omega) (by simp) rfl (fun H locs Z => ?_)
  rw [← ew5] at Z
  refine lv_aload_n C.1 C.2.1 dX8_init_25 rfl (lv_at hl 0 rfl) ?_
  refine lv_bipush (v := iI ((64 : Nat) : Int)) C.1 C.2.1 dX8_init_26 (by decide) ?_
  refine fx_newaI C Z rfl (okm (i := 75) rfl rfl) 64 (by decide) dX8_init_28 (by decide) (by decide) (fun ad q6 H ha hq Z => ?_)
  rw [← ew6] at Z
  rw [n5] at hq
  have eo := (ha 18 (by omega)).trans eo
  have e2 := (ha 19 (by omega)).trans e2
  have e4 := (ha 20 (by omega)).trans e4
  have e6 := hq
  refine fx_putF C hin Z gX8_init_30 (fs' := [.int (iI ((2 : Nat) : Int)), .ref 19, .ref 20, .ref 21, .null, .null, .null, .null, .int 0, .int 0]) g6_18 eo e6 (by omega) (by simp) rfl (fun H locs Z => ?_)
  rw [← ew7] at Z
  refine lv_aload_n C.1 C.2.1 dX8_init_33 rfl (lv_at hl 0 rfl) ?_
  refine lv_bipush (v := iI ((10 : Nat) : Int)) C.1 C.2.1 dX8_init_34 (by decide) ?_
  refine fx_newaI C Z rfl (okm (i := 75) rfl rfl) 10 (by decide) dX8_init_36 (by decide) (by decide) (fun ad q8 H ha hq Z => ?_)
  rw [← ew8] at Z
  rw [n7] at hq
  have eo := (ha 18 (by omega)).trans eo
  have e2 := (ha 19 (by omega)).trans e2
  have e4 := (ha 20 (by omega)).trans e4
  have e6 := (ha 21 (by omega)).trans e6
  have e8 := hq
  refine fx_putF C hin Z gX8_init_38 (fs' := [.int (iI ((2 : Nat) : Int)), .ref 19, .ref 20, .ref 21, .ref 22, .null, .null, .null, .int 0, .int 0]) g8_18 eo e8 (by omega) (by simp) rfl (fun H locs Z => ?_)
  rw [← ew9] at Z
  refine lv_aload_n C.1 C.2.1 dX8_init_41 rfl (lv_at hl 0 rfl) ?_
  refine lv_iconst (v := iI ((5 : Nat) : Int)) C.1 C.2.1 dX8_init_42 (by decide) ?_
  refine fx_newaI C Z rfl (okm (i := 75) rfl rfl) 5 (by decide) dX8_init_43 (by decide) (by decide) (fun ad q10 H ha hq Z => ?_)
  rw [← ew10] at Z
  rw [n9] at hq
  have eo := (ha 18 (by omega)).trans eo
  have e2 := (ha 19 (by omega)).trans e2
  have e4 := (ha 20 (by omega)).trans e4
  have e6 := (ha 21 (by omega)).trans e6
  have e8 := (ha 22 (by omega)).trans e8
  have e10 := hq
  refine fx_putF C hin Z gX8_init_45 (fs' := [.int (iI ((2 : Nat) : Int)), .ref 19, .ref 20, .ref 21, .ref 22, .ref 23, .null, .null, .int 0, .int 0]) g10_18 eo e10 (by omega) (by simp) rfl (fun H locs Z => ?_)
  rw [← ew11] at Z
  refine lv_aload_n C.1 C.2.1 dX8_init_48 rfl (lv_at hl 0 rfl) ?_
  refine lv_bipush (v := iI ((32 : Nat) : Int)) C.1 C.2.1 dX8_init_49 (by decide) ?_
  refine fx_newaJ C Z rfl (okm (i := 111) rfl rfl) 32 (by decide) dX8_init_51 (by decide) (by decide) (fun ad q12 H ha hq Z => ?_)
  rw [← ew12] at Z
  rw [n11] at hq
  have eo := (ha 18 (by omega)).trans eo
  have e2 := (ha 19 (by omega)).trans e2
  have e4 := (ha 20 (by omega)).trans e4
  have e6 := (ha 21 (by omega)).trans e6
  have e8 := (ha 22 (by omega)).trans e8
  have e10 := (ha 23 (by omega)).trans e10
  have e12 := hq
  refine fx_putF C hin Z gX8_init_53 (fs' := [.int (iI ((2 : Nat) : Int)), .ref 19, .ref 20, .ref 21, .ref 22, .ref 23, .ref 24, .null, .int 0, .int 0]) g12_18 eo e12 (by omega) (by simp) rfl (fun H locs Z => ?_)
  rw [← ew13] at Z
  refine lv_aload_n C.1 C.2.1 dX8_init_56 rfl (lv_at hl 0 rfl) ?_
  refine lv_bipush (v := iI ((6 : Nat) : Int)) C.1 C.2.1 dX8_init_57 (by decide) ?_
  refine fx_newaI C Z rfl (okm (i := 75) rfl rfl) 6 (by decide) dX8_init_59 (by decide) (by decide) (fun ad q14 H ha hq Z => ?_)
  rw [← ew14] at Z
  rw [n13] at hq
  have eo := (ha 18 (by omega)).trans eo
  have e2 := (ha 19 (by omega)).trans e2
  have e4 := (ha 20 (by omega)).trans e4
  have e6 := (ha 21 (by omega)).trans e6
  have e8 := (ha 22 (by omega)).trans e8
  have e10 := (ha 23 (by omega)).trans e10
  have e12 := (ha 24 (by omega)).trans e12
  have e14 := hq
  refine fx_putF C hin Z gX8_init_61 (fs' := [.int (iI ((2 : Nat) : Int)), .ref 19, .ref 20, .ref 21, .ref 22, .ref 23, .ref 24, .ref 25, .int 0, .int 0]) g14_18 eo e14 (by omega) (by simp) rfl (fun H locs Z => ?_)
  rw [← ew15] at Z
  refine lv_aload_n C.1 C.2.1 dX8_init_64 rfl (lv_at hl 0 rfl) ?_
  refine fx_callV C Z (As' := []) kX8_init_65 K16 (by decide) g15_18 rfl (fun _ => rfl) eo rfl (Nat.le_of_ble_eq_true rfl) hl.1 (Nat.le_trans (by decide) C.2.2.2.2.2.2.2.2.2.2.2.1) (Nat.le_trans (by decide) C.2.2.2.2.2.2.2.2.2.2.2.2) f16 (fun _ => rfl) (fun H locs Z => ?_)
  exact fx_ret C Z rfl dX8_init_68 rfl (by decide) (by decide)
