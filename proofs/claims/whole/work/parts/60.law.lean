/-! the law: what its calls ask, its loop, its start -/
set_option maxRecDepth 20000 in
theorem kL_law_126 : fk_V mL_law mX7_table 126 7 1 := ⟨13, "", TX7, 7, dL_law_126, rfl, Or.inl (okm (i := 209) rfl rfl), (okm (i := 210) rfl rfl), (okm (i := 211) rfl rfl), (okm (i := 33) rfl rfl), (okm (i := 212) rfl rfl), ⟨by decide, by decide, by decide +kernel⟩, by decide⟩
set_option maxRecDepth 20000 in
theorem kL_law_135 : fk_V mL_law mX8_table 135 8 1 := ⟨17, "", TX8, 10, dL_law_135, rfl, Or.inl (okm (i := 543) rfl rfl), (okm (i := 544) rfl rfl), (okm (i := 545) rfl rfl), (okm (i := 41) rfl rfl), (okm (i := 546) rfl rfl), ⟨by decide, by decide, by decide +kernel⟩, by decide⟩
set_option maxRecDepth 20000 in
theorem kL_law_159 : fk_V mL_law mX7_set 159 7 3 := ⟨18, "", TX7, 7, dL_law_159, rfl, Or.inl (okm (i := 214) rfl rfl), (okm (i := 215) rfl rfl), (okm (i := 216) rfl rfl), (okm (i := 33) rfl rfl), (okm (i := 217) rfl rfl), ⟨by decide, by decide, by decide +kernel⟩, by decide⟩
set_option maxRecDepth 20000 in
theorem kL_law_178 : fk_V mL_law mX8_set 178 8 3 := ⟨22, "", TX8, 10, dL_law_178, rfl, Or.inl (okm (i := 550) rfl rfl), (okm (i := 551) rfl rfl), (okm (i := 552) rfl rfl), (okm (i := 41) rfl rfl), (okm (i := 553) rfl rfl), ⟨by decide, by decide, by decide +kernel⟩, by decide⟩
set_option maxRecDepth 20000 in
theorem kL_law_197 : fk_V mL_law mX7_at 197 7 2 := ⟨23, "", TX7, 7, dL_law_197, rfl, Or.inl (okm (i := 234) rfl rfl), (okm (i := 235) rfl rfl), (okm (i := 236) rfl rfl), (okm (i := 33) rfl rfl), (okm (i := 237) rfl rfl), ⟨by decide, by decide, by decide +kernel⟩, by decide⟩
set_option maxRecDepth 20000 in
theorem kL_law_211 : fk_V mL_law mX8_at 211 8 2 := ⟨27, "", TX8, 10, dL_law_211, rfl, Or.inl (okm (i := 562) rfl rfl), (okm (i := 563) rfl rfl), (okm (i := 564) rfl rfl), (okm (i := 41) rfl rfl), (okm (i := 565) rfl rfl), ⟨by decide, by decide, by decide +kernel⟩, by decide⟩
set_option maxRecDepth 20000 in
theorem kL_law_225 : fk_V mL_law mX7_law 225 7 1 := ⟨28, "", TX7, 7, dL_law_225, rfl, Or.inl (okm (i := 238) rfl rfl), (okm (i := 239) rfl rfl), (okm (i := 240) rfl rfl), (okm (i := 33) rfl rfl), (okm (i := 241) rfl rfl), ⟨by decide, by decide, by decide +kernel⟩, by decide⟩
set_option maxRecDepth 20000 in
theorem kL_law_234 : fk_V mL_law mX8_law 234 8 1 := ⟨31, "", TX8, 10, dL_law_234, rfl, Or.inl (okm (i := 566) rfl rfl), (okm (i := 567) rfl rfl), (okm (i := 568) rfl rfl), (okm (i := 41) rfl rfl), (okm (i := 569) rfl rfl), ⟨by decide, by decide, by decide +kernel⟩, by decide⟩
set_option maxRecDepth 20000 in
theorem kL_law_248 : fk_V mL_law mX7_breaks 248 7 1 := ⟨32, "", TX7, 7, dL_law_248, rfl, Or.inl (okm (i := 284) rfl rfl), (okm (i := 285) rfl rfl), (okm (i := 286) rfl rfl), (okm (i := 33) rfl rfl), (okm (i := 287) rfl rfl), ⟨by decide, by decide, by decide +kernel⟩, by decide⟩
set_option maxRecDepth 20000 in
theorem kL_law_257 : fk_V mL_law mX8_breaks 257 8 1 := ⟨35, "", TX8, 10, dL_law_257, rfl, Or.inl (okm (i := 585) rfl rfl), (okm (i := 586) rfl rfl), (okm (i := 587) rfl rfl), (okm (i := 41) rfl rfl), (okm (i := 588) rfl rfl), ⟨by decide, by decide, by decide +kernel⟩, by decide⟩
set_option maxRecDepth 20000 in
theorem kL_law_266 : fk_V mL_law mX7_flat 266 7 0 := ⟨36, "", TX7, 7, dL_law_266, rfl, Or.inl (okm (i := 288) rfl rfl), (okm (i := 289) rfl rfl), (okm (i := 290) rfl rfl), (okm (i := 33) rfl rfl), (okm (i := 291) rfl rfl), ⟨by decide, by decide, by decide +kernel⟩, by decide⟩
set_option maxRecDepth 20000 in
theorem kL_law_270 : fk_V mL_law mX8_flat 270 8 0 := ⟨40, "", TX8, 10, dL_law_270, rfl, Or.inl (okm (i := 589) rfl rfl), (okm (i := 590) rfl rfl), (okm (i := 591) rfl rfl), (okm (i := 41) rfl rfl), (okm (i := 592) rfl rfl), ⟨by decide, by decide, by decide +kernel⟩, by decide⟩
set_option maxRecDepth 20000 in
theorem kL_law_279 : fk_V mL_law mX7_ways 279 7 0 := ⟨41, "", TX7, 7, dL_law_279, rfl, Or.inl (okm (i := 325) rfl rfl), (okm (i := 326) rfl rfl), (okm (i := 327) rfl rfl), (okm (i := 33) rfl rfl), (okm (i := 328) rfl rfl), ⟨by decide, by decide, by decide +kernel⟩, by decide⟩
set_option maxRecDepth 20000 in
theorem kL_law_283 : fk_V mL_law mX8_ways 283 8 0 := ⟨44, "", TX8, 10, dL_law_283, rfl, Or.inl (okm (i := 600) rfl rfl), (okm (i := 601) rfl rfl), (okm (i := 602) rfl rfl), (okm (i := 41) rfl rfl), (okm (i := 603) rfl rfl), ⟨by decide, by decide, by decide +kernel⟩, by decide⟩
set_option maxRecDepth 20000 in
theorem kL_law_297 : fk_V mL_law mX7_bulk 297 7 1 := ⟨45, "", TX7, 7, dL_law_297, rfl, Or.inl (okm (i := 334) rfl rfl), (okm (i := 335) rfl rfl), (okm (i := 336) rfl rfl), (okm (i := 33) rfl rfl), (okm (i := 337) rfl rfl), ⟨by decide, by decide, by decide +kernel⟩, by decide⟩
set_option maxRecDepth 20000 in
theorem kL_law_306 : fk_V mL_law mX8_bulk 306 8 1 := ⟨49, "", TX8, 10, dL_law_306, rfl, Or.inl (okm (i := 604) rfl rfl), (okm (i := 605) rfl rfl), (okm (i := 606) rfl rfl), (okm (i := 41) rfl rfl), (okm (i := 607) rfl rfl), ⟨by decide, by decide, by decide +kernel⟩, by decide⟩
set_option maxRecDepth 20000 in
theorem kL_law_326 : fk_V mL_law mX7_add 326 7 2 := ⟨50, "", TX7, 7, dL_law_326, rfl, Or.inl (okm (i := 340) rfl rfl), (okm (i := 341) rfl rfl), (okm (i := 342) rfl rfl), (okm (i := 33) rfl rfl), (okm (i := 343) rfl rfl), ⟨by decide, by decide, by decide +kernel⟩, by decide⟩
set_option maxRecDepth 20000 in
theorem kL_law_340 : fk_V mL_law mX8_add 340 8 2 := ⟨53, "", TX8, 10, dL_law_340, rfl, Or.inl (okm (i := 609) rfl rfl), (okm (i := 610) rfl rfl), (okm (i := 611) rfl rfl), (okm (i := 41) rfl rfl), (okm (i := 612) rfl rfl), ⟨by decide, by decide, by decide +kernel⟩, by decide⟩
set_option maxRecDepth 20000 in
theorem kL_law_354 : fk_V mL_law mX7_peel 354 7 1 := ⟨54, "", TX7, 7, dL_law_354, rfl, Or.inl (okm (i := 363) rfl rfl), (okm (i := 364) rfl rfl), (okm (i := 365) rfl rfl), (okm (i := 33) rfl rfl), (okm (i := 366) rfl rfl), ⟨by decide, by decide, by decide +kernel⟩, by decide⟩
set_option maxRecDepth 20000 in
theorem kL_law_363 : fk_V mL_law mX8_peel 363 8 1 := ⟨57, "", TX8, 10, dL_law_363, rfl, Or.inl (okm (i := 620) rfl rfl), (okm (i := 621) rfl rfl), (okm (i := 622) rfl rfl), (okm (i := 41) rfl rfl), (okm (i := 623) rfl rfl), ⟨by decide, by decide, by decide +kernel⟩, by decide⟩
set_option maxRecDepth 20000 in
theorem kL_law_382 : fk_V mL_law mX7_left 382 7 2 := ⟨58, "", TX7, 7, dL_law_382, rfl, Or.inl (okm (i := 390) rfl rfl), (okm (i := 391) rfl rfl), (okm (i := 392) rfl rfl), (okm (i := 33) rfl rfl), (okm (i := 393) rfl rfl), ⟨by decide, by decide, by decide +kernel⟩, by decide⟩
set_option maxRecDepth 20000 in
theorem kL_law_396 : fk_V mL_law mX8_left 396 8 2 := ⟨61, "", TX8, 10, dL_law_396, rfl, Or.inl (okm (i := 632) rfl rfl), (okm (i := 633) rfl rfl), (okm (i := 634) rfl rfl), (okm (i := 41) rfl rfl), (okm (i := 635) rfl rfl), ⟨by decide, by decide, by decide +kernel⟩, by decide⟩
set_option maxRecDepth 20000 in
theorem kL_law_420 : fk_V mL_law mX7_line 420 7 3 := ⟨62, "", TX7, 7, dL_law_420, rfl, Or.inl (okm (i := 394) rfl rfl), (okm (i := 395) rfl rfl), (okm (i := 396) rfl rfl), (okm (i := 33) rfl rfl), (okm (i := 397) rfl rfl), ⟨by decide, by decide, by decide +kernel⟩, by decide⟩
set_option maxRecDepth 20000 in
theorem kL_law_439 : fk_V mL_law mX8_line 439 8 3 := ⟨65, "", TX8, 10, dL_law_439, rfl, Or.inl (okm (i := 636) rfl rfl), (okm (i := 637) rfl rfl), (okm (i := 638) rfl rfl), (okm (i := 41) rfl rfl), (okm (i := 639) rfl rfl), ⟨by decide, by decide, by decide +kernel⟩, by decide⟩
set_option maxRecDepth 20000 in
theorem kL_law_453 : fk_V mL_law mX7_best 453 7 1 := ⟨66, "", TX7, 7, dL_law_453, rfl, Or.inl (okm (i := 428) rfl rfl), (okm (i := 429) rfl rfl), (okm (i := 430) rfl rfl), (okm (i := 33) rfl rfl), (okm (i := 431) rfl rfl), ⟨by decide, by decide, by decide +kernel⟩, by decide⟩
set_option maxRecDepth 20000 in
theorem kL_law_462 : fk_V mL_law mX8_best 462 8 1 := ⟨69, "", TX8, 10, dL_law_462, rfl, Or.inl (okm (i := 655) rfl rfl), (okm (i := 656) rfl rfl), (okm (i := 657) rfl rfl), (okm (i := 41) rfl rfl), (okm (i := 658) rfl rfl), ⟨by decide, by decide, by decide +kernel⟩, by decide⟩
set_option maxRecDepth 20000 in
theorem kL_law_486 : fk_V mL_law mX7_centres 486 7 3 := ⟨70, "", TX7, 7, dL_law_486, rfl, Or.inl (okm (i := 446) rfl rfl), (okm (i := 447) rfl rfl), (okm (i := 448) rfl rfl), (okm (i := 33) rfl rfl), (okm (i := 449) rfl rfl), ⟨by decide, by decide, by decide +kernel⟩, by decide⟩
set_option maxRecDepth 20000 in
theorem kL_law_505 : fk_V mL_law mX8_centres 505 8 3 := ⟨73, "", TX8, 10, dL_law_505, rfl, Or.inl (okm (i := 662) rfl rfl), (okm (i := 663) rfl rfl), (okm (i := 664) rfl rfl), (okm (i := 41) rfl rfl), (okm (i := 665) rfl rfl), ⟨by decide, by decide, by decide +kernel⟩, by decide⟩
set_option maxRecDepth 20000 in
theorem kL_law_524 : fk_V mL_law mX7_number 524 7 2 := ⟨74, "", TX7, 7, dL_law_524, rfl, Or.inl (okm (i := 468) rfl rfl), (okm (i := 469) rfl rfl), (okm (i := 470) rfl rfl), (okm (i := 33) rfl rfl), (okm (i := 471) rfl rfl), ⟨by decide, by decide, by decide +kernel⟩, by decide⟩
set_option maxRecDepth 20000 in
theorem kL_law_538 : fk_V mL_law mX8_number 538 8 2 := ⟨77, "", TX8, 10, dL_law_538, rfl, Or.inl (okm (i := 670) rfl rfl), (okm (i := 671) rfl rfl), (okm (i := 672) rfl rfl), (okm (i := 41) rfl rfl), (okm (i := 673) rfl rfl), ⟨by decide, by decide, by decide +kernel⟩, by decide⟩
set_option maxRecDepth 20000 in
theorem kL_law_557 : fk_V mL_law mX7_signs 557 7 2 := ⟨78, "", TX7, 7, dL_law_557, rfl, Or.inl (okm (i := 472) rfl rfl), (okm (i := 473) rfl rfl), (okm (i := 474) rfl rfl), (okm (i := 33) rfl rfl), (okm (i := 475) rfl rfl), ⟨by decide, by decide, by decide +kernel⟩, by decide⟩
set_option maxRecDepth 20000 in
theorem kL_law_571 : fk_V mL_law mX8_signs 571 8 2 := ⟨81, "", TX8, 10, dL_law_571, rfl, Or.inl (okm (i := 674) rfl rfl), (okm (i := 675) rfl rfl), (okm (i := 676) rfl rfl), (okm (i := 41) rfl rfl), (okm (i := 677) rfl rfl), ⟨by decide, by decide, by decide +kernel⟩, by decide⟩
set_option maxRecDepth 20000 in
theorem kL_law_590 : fk_V mL_law mX7_least 590 7 2 := ⟨82, "", TX7, 7, dL_law_590, rfl, Or.inl (okm (i := 489) rfl rfl), (okm (i := 490) rfl rfl), (okm (i := 491) rfl rfl), (okm (i := 33) rfl rfl), (okm (i := 492) rfl rfl), ⟨by decide, by decide, by decide +kernel⟩, by decide⟩
set_option maxRecDepth 20000 in
theorem kL_law_604 : fk_V mL_law mX8_least 604 8 2 := ⟨85, "", TX8, 10, dL_law_604, rfl, Or.inl (okm (i := 682) rfl rfl), (okm (i := 683) rfl rfl), (okm (i := 684) rfl rfl), (okm (i := 41) rfl rfl), (okm (i := 685) rfl rfl), ⟨by decide, by decide, by decide +kernel⟩, by decide⟩
set_option maxRecDepth 20000 in
theorem kL_law_613 : fk_V mL_law mX7_count 613 7 0 := ⟨86, "", TX7, 7, dL_law_613, rfl, Or.inl (okm (i := 498) rfl rfl), (okm (i := 499) rfl rfl), (okm (i := 500) rfl rfl), (okm (i := 33) rfl rfl), (okm (i := 501) rfl rfl), ⟨by decide, by decide, by decide +kernel⟩, by decide⟩
set_option maxRecDepth 20000 in
theorem kL_law_617 : fk_V mL_law mX8_count 617 8 0 := ⟨89, "", TX8, 10, dL_law_617, rfl, Or.inl (okm (i := 686) rfl rfl), (okm (i := 687) rfl rfl), (okm (i := 688) rfl rfl), (okm (i := 41) rfl rfl), (okm (i := 689) rfl rfl), ⟨by decide, by decide, by decide +kernel⟩, by decide⟩
set_option maxRecDepth 20000 in
theorem lg_self (x : Int64) : lg_cmp x x = 0 := by
  rw [cmpL_eq]
  rw [(cmpL_0 x x).mpr rfl]; rfl
set_option maxRecDepth 20000 in
theorem law_in {L i j : Nat} (hL : L ≤ 2048) (h : i + j < L) : vp_in (iI ((i : Nat) : Int) + iI ((j : Nat) : Int)) L := by
  rw [iI_add]
  intro q
  have hr : -2147483648 ≤ (i : Int) + (j : Int) ∧ (i : Int) + (j : Int) ≤ 2147483647 := by omega
  rcases q with q | q
  · have := (iI_lt (b := 0) hr (by decide)).mp q; omega
  · have e : (iI ((i : Int) + (j : Int))).toNatClampNeg = i + j := by show Int.toNat _ = _; rw [fw_rng hr]; omega
    omega
set_option maxRecDepth 20000 in
theorem law_ix {L i j : Nat} (hL : L ≤ 2048) (h : i + j < L) : (iI ((i : Nat) : Int) + iI ((j : Nat) : Int)).toNatClampNeg = i + j := by
  rw [iI_add]
  have hr : -2147483648 ≤ (i : Int) + (j : Int) ∧ (i : Int) + (j : Int) ≤ 2147483647 := by omega
  show Int.toNat _ = _; rw [fw_rng hr]; omega
set_option maxRecDepth 20000 in
theorem law_in0 {L i : Nat} (hL : L ≤ 2048) (h : i < L) : vp_in (iI ((i : Nat) : Int)) L := by
  intro q
  have hr : -2147483648 ≤ (i : Int) ∧ (i : Int) ≤ 2147483647 := by omega
  rcases q with q | q
  · have := (iI_lt (b := 0) hr (by decide)).mp q; omega
  · have e : (iI (i : Int)).toNatClampNeg = i := by show Int.toNat _ = _; rw [fw_rng hr]; omega
    omega
set_option maxRecDepth 20000 in
theorem pt31 {x : Int32} : ∃ p : Nat, p < 32 ∧ x &&& iI ((31 : Nat) : Int) = iI p := by
  have h := pk_and x (m := iI 31) 5 (by decide)
  exact ⟨x.toBitVec.toNat % 2 ^ 5, Nat.mod_lt _ (by decide), by rw [show ((31 : Nat) : Int) = 31 from rfl, h, iI_nat]⟩
set_option maxHeartbeats 4000000 in
set_option maxRecDepth 20000 in
theorem law_loop {p : Program} {l : Launch} {e : Env} {s : State} {m : MethodId} {below : List Frame} {meth : Method} {c : Code} {b L : Nat} {xs : Nat → Int32} {g0 : fw_G} (hL : L ≤ 2048) (hx : p.tables.exec = Jvm.exec) (hb : c.code = code) (hr : meth.sig.returnType = ret) (hlocks : meth.locks = false) (hX : va_X b L xs s s.heap) (hbl : b < s.heap.size) (C : fa_C mL_law 20 600000 7302250 p room_1 s m #[Value.ref b] meth c g0) (hbA : ¬ fw_A g0 0 s.heap.size b) (q0 q18 : Nat) : ∀ (k i : Nat), L + 4 ≤ i + k → i ≤ L + 4 → ∀ (w : fw_S) (ad : Nat → Nat) (H : Heap) (locs : List Loc) (ls : Array Slot), RW w → w.1 = 26 → ad 0 = q0 → ad 18 = q18 → fa_Z g0 0 s ad w H locs → lv_has ls 4 [(0, .ref b), (1, .ref q0), (2, .ref q18), (3, .int (iI ((i : Nat) : Int)))] → W p l e room_1 s m #[Value.ref b] below meth c H locs 600000 7302250 (lw_Z below #[Value.ref b] s) (F0 m 18 ls []) := by
  intro k
  induction k with
  | zero =>
    intro i hik hi w ad H locs ls hR h26 e0 e18 Z hl
    refine lv_iload_n hx hb dL_law_18 rfl (lv_at hl 3 rfl) ?_
    refine lv_aload_n hx hb dL_law_19 rfl (lv_at hl 0 rfl) ?_
    refine va_slen hx hb hX hbl hbA Z.2.2.2.1 dL_law_20 ?_
    refine lv_iconst (v := iI ((4 : Nat) : Int)) hx hb dL_law_21 (by decide) ?_
    refine lv_isub hx hb dL_law_22 ?_
    rw [show Int32.ofNat L = iI ((L : Nat) : Int) from (iI_nat L).symm, iI_sub]
    refine lv_icmp_gt (tgt := 631) hx hb dL_law_23 (by decide) (fun _ => ?_) (fun q => absurd ((iI_lt (by omega) (by omega)).mpr (by omega)) q)
    refine lv_iconst (v := 1) hx hb dL_law_631 (by decide) ?_
    refine va_forget (fun q hq => ?_) (lw_ret hx hb hr hlocks dL_law_632)
    rcases Z.2.2.2.1.2.2 q hq with ⟨j, hj, _⟩ | h2
    · exact absurd hj (Nat.not_lt_zero _)
    · exact h2
  | succ k ih =>
    intro i hik hi w ad H locs ls hR h26 e0 e18 Z hl
    refine lv_iload_n hx hb dL_law_18 rfl (lv_at hl 3 rfl) ?_
    refine lv_aload_n hx hb dL_law_19 rfl (lv_at hl 0 rfl) ?_
    refine va_slen hx hb hX hbl hbA Z.2.2.2.1 dL_law_20 ?_
    refine lv_iconst (v := iI ((4 : Nat) : Int)) hx hb dL_law_21 (by decide) ?_
    refine lv_isub hx hb dL_law_22 ?_
    rw [show Int32.ofNat L = iI ((L : Nat) : Int) from (iI_nat L).symm, iI_sub]
    refine lv_icmp_gt (tgt := 631) hx hb dL_law_23 (by decide) (fun _ => ?_) (fun q => ?_)
    · refine lv_iconst (v := 1) hx hb dL_law_631 (by decide) ?_
      refine va_forget (fun q hq => ?_) (lw_ret hx hb hr hlocks dL_law_632)
      rcases Z.2.2.2.1.2.2 q hq with ⟨j, hj, _⟩ | h2
      · exact absurd hj (Nat.not_lt_zero _)
      · exact h2
    have hlt : i + 4 ≤ L := by
      rcases Nat.lt_or_ge L (i + 4) with h | h
      · exact absurd ((iI_lt (by omega) (by omega)).mpr (by omega)) q
      · exact h
    have next : ∀ (w : fw_S) (H : Heap) (locs : List Loc), RW w → w.1 = 26 → fa_Z g0 0 s ad w H locs → W p l e room_1 s m #[Value.ref b] below meth c H locs 600000 7302250 (lw_Z below #[Value.ref b] s) (F0 m 625 ls []) := by
      intro w H locs hR h26 Z
      refine lv_iinc (v := iI ((i + 4 : Nat) : Int)) (lv' := [(3, .int (iI ((i + 4 : Nat) : Int))), (0, .ref b), (1, .ref q0), (2, .ref q18)]) hx hb dL_law_625 hl (k := 3) rfl (by show iI _ + iI 4 = _; rw [iI_add]; rfl) (by decide) rfl (fun ls hl => ?_)
      refine lv_goto (tgt := 18) hx hb dL_law_628 (by decide) ?_
      exact ih (i + 4) (by omega) (by omega) w ad H locs ls hR h26 e0 e18 Z (lv_sub hl [1, 2, 3, 0] rfl)
    refine lv_aload_n hx hb dL_law_26 rfl (lv_at hl 0 rfl) ?_
    refine lv_iload_n hx hb dL_law_27 rfl (lv_at hl 3 rfl) ?_
    refine va_sld hx hb hX hbl hbA Z.2.2.2.1 (law_in0 hL (by omega)) dL_law_28 ?_
    generalize xs (iI ((i : Nat) : Int)).toNatClampNeg = what
    refine lv_bipush (v := iI ((31 : Nat) : Int)) hx hb dL_law_29 (by decide) ?_
    refine lv_iand hx hb dL_law_31 ?_
    obtain ⟨a, ha, ea⟩ := pt31 (x := what)
    rw [ea]
    rcases (show a = 0 ∨ a = 1 ∨ a = 2 ∨ a = 3 ∨ a = 4 ∨ a = 5 ∨ a = 6 ∨ a = 7 ∨ a = 8 ∨ a = 9 ∨ a = 10 ∨ a = 11 ∨ a = 12 ∨ a = 13 ∨ a = 14 ∨ a = 15 ∨ a = 16 ∨ a = 17 ∨ 18 ≤ a by omega) with rfl | rfl | rfl | rfl | rfl | rfl | rfl | rfl | rfl | rfl | rfl | rfl | rfl | rfl | rfl | rfl | rfl | rfl | ha2
    · refine lv_tableIn (off := 88) (tgt := 120) hx hb dL_law_32 (by decide) (by decide) (by decide) (by decide) ?_
      obtain ⟨r, w1, w2, fs, fs', ⟨x, rfl⟩, k1, k2, g0', g18, R2, h3⟩ := tw_table hR (xs (i + 1))
      have h3 := h3 h26
      refine lv_aload_n hx hb dL_law_120 rfl (lv_at hl 1 rfl) ?_
      refine lv_aload_n hx hb dL_law_121 rfl (lv_at hl 0 rfl) ?_
      refine lv_iload_n hx hb dL_law_122 rfl (lv_at hl 3 rfl) ?_
      refine lv_iconst (v := iI ((1 : Nat) : Int)) hx hb dL_law_123 (by decide) ?_
      refine lv_iadd hx hb dL_law_124 ?_
      refine va_sld hx hb hX hbl hbA Z.2.2.2.1 (law_in hL (j := 1) (by omega)) dL_law_125 ?_
      rw [law_ix hL (show i + 1 < L by omega)]
      refine fx_callV C Z (As' := []) kL_law_126 k1 (by decide) g0' rfl (fun _ => rfl) e0 rfl (Nat.le_of_ble_eq_true rfl) hl.1 (by decide) (by decide) (h3.2.1) (fun _ => rfl) (fun H locs Z => ?_)
      dsimp only [Option.toList, List.cons_append, List.nil_append]
      refine lv_aload_n hx hb dL_law_129 rfl (lv_at hl 2 rfl) ?_
      refine lv_aload_n hx hb dL_law_130 rfl (lv_at hl 0 rfl) ?_
      refine lv_iload_n hx hb dL_law_131 rfl (lv_at hl 3 rfl) ?_
      refine lv_iconst (v := iI ((1 : Nat) : Int)) hx hb dL_law_132 (by decide) ?_
      refine lv_iadd hx hb dL_law_133 ?_
      refine va_sld hx hb hX hbl hbA Z.2.2.2.1 (law_in hL (j := 1) (by omega)) dL_law_134 ?_
      rw [law_ix hL (show i + 1 < L by omega)]
      refine fx_callV C Z (As' := []) kL_law_135 k2 (by decide) g18 rfl (fun _ => rfl) e18 rfl (Nat.le_of_ble_eq_true rfl) hl.1 (by decide) (by decide) (h3.2.2) (fun _ => rfl) (fun H locs Z => ?_)
      dsimp only [Option.toList, List.cons_append, List.nil_append]
      refine lv_icmp_eq (tgt := 625) hx hb dL_law_138 (by decide) (fun _ => ?_) (fun q => absurd rfl q)
      exact next w2 H locs R2 h3.1 Z
    · refine lv_tableIn (off := 111) (tgt := 143) hx hb dL_law_32 (by decide) (by decide) (by decide) (by decide) ?_
      obtain ⟨r, w1, w2, fs, fs', ⟨x, rfl⟩, k1, k2, g0', g18, R2, h3⟩ := tw_set hR (xs (i + 1)) (xs (i + 2)) (xs (i + 3))
      have h3 := h3 h26
      refine lv_aload_n hx hb dL_law_143 rfl (lv_at hl 1 rfl) ?_
      refine lv_aload_n hx hb dL_law_144 rfl (lv_at hl 0 rfl) ?_
      refine lv_iload_n hx hb dL_law_145 rfl (lv_at hl 3 rfl) ?_
      refine lv_iconst (v := iI ((1 : Nat) : Int)) hx hb dL_law_146 (by decide) ?_
      refine lv_iadd hx hb dL_law_147 ?_
      refine va_sld hx hb hX hbl hbA Z.2.2.2.1 (law_in hL (j := 1) (by omega)) dL_law_148 ?_
      rw [law_ix hL (show i + 1 < L by omega)]
      refine lv_aload_n hx hb dL_law_149 rfl (lv_at hl 0 rfl) ?_
      refine lv_iload_n hx hb dL_law_150 rfl (lv_at hl 3 rfl) ?_
      refine lv_iconst (v := iI ((2 : Nat) : Int)) hx hb dL_law_151 (by decide) ?_
      refine lv_iadd hx hb dL_law_152 ?_
      refine va_sld hx hb hX hbl hbA Z.2.2.2.1 (law_in hL (j := 2) (by omega)) dL_law_153 ?_
      rw [law_ix hL (show i + 2 < L by omega)]
      refine lv_aload_n hx hb dL_law_154 rfl (lv_at hl 0 rfl) ?_
      refine lv_iload_n hx hb dL_law_155 rfl (lv_at hl 3 rfl) ?_
      refine lv_iconst (v := iI ((3 : Nat) : Int)) hx hb dL_law_156 (by decide) ?_
      refine lv_iadd hx hb dL_law_157 ?_
      refine va_sld hx hb hX hbl hbA Z.2.2.2.1 (law_in hL (j := 3) (by omega)) dL_law_158 ?_
      rw [law_ix hL (show i + 3 < L by omega)]
      refine fx_callV C Z (As' := []) kL_law_159 k1 (by decide) g0' rfl (fun _ => rfl) e0 rfl (Nat.le_of_ble_eq_true rfl) hl.1 (by decide) (by decide) (h3.2.1) (fun _ => rfl) (fun H locs Z => ?_)
      dsimp only [Option.toList, List.cons_append, List.nil_append]
      refine lv_aload_n hx hb dL_law_162 rfl (lv_at hl 2 rfl) ?_
      refine lv_aload_n hx hb dL_law_163 rfl (lv_at hl 0 rfl) ?_
      refine lv_iload_n hx hb dL_law_164 rfl (lv_at hl 3 rfl) ?_
      refine lv_iconst (v := iI ((1 : Nat) : Int)) hx hb dL_law_165 (by decide) ?_
      refine lv_iadd hx hb dL_law_166 ?_
      refine va_sld hx hb hX hbl hbA Z.2.2.2.1 (law_in hL (j := 1) (by omega)) dL_law_167 ?_
      rw [law_ix hL (show i + 1 < L by omega)]
      refine lv_aload_n hx hb dL_law_168 rfl (lv_at hl 0 rfl) ?_
      refine lv_iload_n hx hb dL_law_169 rfl (lv_at hl 3 rfl) ?_
      refine lv_iconst (v := iI ((2 : Nat) : Int)) hx hb dL_law_170 (by decide) ?_
      refine lv_iadd hx hb dL_law_171 ?_
      refine va_sld hx hb hX hbl hbA Z.2.2.2.1 (law_in hL (j := 2) (by omega)) dL_law_172 ?_
      rw [law_ix hL (show i + 2 < L by omega)]
      refine lv_aload_n hx hb dL_law_173 rfl (lv_at hl 0 rfl) ?_
      refine lv_iload_n hx hb dL_law_174 rfl (lv_at hl 3 rfl) ?_
      refine lv_iconst (v := iI ((3 : Nat) : Int)) hx hb dL_law_175 (by decide) ?_
      refine lv_iadd hx hb dL_law_176 ?_
      refine va_sld hx hb hX hbl hbA Z.2.2.2.1 (law_in hL (j := 3) (by omega)) dL_law_177 ?_
      rw [law_ix hL (show i + 3 < L by omega)]
      refine fx_callV C Z (As' := []) kL_law_178 k2 (by decide) g18 rfl (fun _ => rfl) e18 rfl (Nat.le_of_ble_eq_true rfl) hl.1 (by decide) (by decide) (h3.2.2) (fun _ => rfl) (fun H locs Z => ?_)
      dsimp only [Option.toList, List.cons_append, List.nil_append]
      refine lv_icmp_eq (tgt := 625) hx hb dL_law_181 (by decide) (fun _ => ?_) (fun q => absurd rfl q)
      exact next w2 H locs R2 h3.1 Z
    · refine lv_tableIn (off := 154) (tgt := 186) hx hb dL_law_32 (by decide) (by decide) (by decide) (by decide) ?_
      obtain ⟨r, w1, w2, fs, fs', ⟨x, rfl⟩, k1, k2, g0', g18, R2, h3⟩ := tw_at hR (xs (i + 1)) (xs (i + 2))
      have h3 := h3 h26
      refine lv_aload_n hx hb dL_law_186 rfl (lv_at hl 1 rfl) ?_
      refine lv_aload_n hx hb dL_law_187 rfl (lv_at hl 0 rfl) ?_
      refine lv_iload_n hx hb dL_law_188 rfl (lv_at hl 3 rfl) ?_
      refine lv_iconst (v := iI ((1 : Nat) : Int)) hx hb dL_law_189 (by decide) ?_
      refine lv_iadd hx hb dL_law_190 ?_
      refine va_sld hx hb hX hbl hbA Z.2.2.2.1 (law_in hL (j := 1) (by omega)) dL_law_191 ?_
      rw [law_ix hL (show i + 1 < L by omega)]
      refine lv_aload_n hx hb dL_law_192 rfl (lv_at hl 0 rfl) ?_
      refine lv_iload_n hx hb dL_law_193 rfl (lv_at hl 3 rfl) ?_
      refine lv_iconst (v := iI ((2 : Nat) : Int)) hx hb dL_law_194 (by decide) ?_
      refine lv_iadd hx hb dL_law_195 ?_
      refine va_sld hx hb hX hbl hbA Z.2.2.2.1 (law_in hL (j := 2) (by omega)) dL_law_196 ?_
      rw [law_ix hL (show i + 2 < L by omega)]
      refine fx_callV C Z (As' := []) kL_law_197 k1 (by decide) g0' rfl (fun _ => rfl) e0 rfl (Nat.le_of_ble_eq_true rfl) hl.1 (by decide) (by decide) (h3.2.1) (fun _ => rfl) (fun H locs Z => ?_)
      dsimp only [Option.toList, List.cons_append, List.nil_append]
      refine lv_aload_n hx hb dL_law_200 rfl (lv_at hl 2 rfl) ?_
      refine lv_aload_n hx hb dL_law_201 rfl (lv_at hl 0 rfl) ?_
      refine lv_iload_n hx hb dL_law_202 rfl (lv_at hl 3 rfl) ?_
      refine lv_iconst (v := iI ((1 : Nat) : Int)) hx hb dL_law_203 (by decide) ?_
      refine lv_iadd hx hb dL_law_204 ?_
      refine va_sld hx hb hX hbl hbA Z.2.2.2.1 (law_in hL (j := 1) (by omega)) dL_law_205 ?_
      rw [law_ix hL (show i + 1 < L by omega)]
      refine lv_aload_n hx hb dL_law_206 rfl (lv_at hl 0 rfl) ?_
      refine lv_iload_n hx hb dL_law_207 rfl (lv_at hl 3 rfl) ?_
      refine lv_iconst (v := iI ((2 : Nat) : Int)) hx hb dL_law_208 (by decide) ?_
      refine lv_iadd hx hb dL_law_209 ?_
      refine va_sld hx hb hX hbl hbA Z.2.2.2.1 (law_in hL (j := 2) (by omega)) dL_law_210 ?_
      rw [law_ix hL (show i + 2 < L by omega)]
      refine fx_callV C Z (As' := []) kL_law_211 k2 (by decide) g18 rfl (fun _ => rfl) e18 rfl (Nat.le_of_ble_eq_true rfl) hl.1 (by decide) (by decide) (h3.2.2) (fun _ => rfl) (fun H locs Z => ?_)
      dsimp only [Option.toList, List.cons_append, List.nil_append]
      refine lv_icmp_eq (tgt := 625) hx hb dL_law_214 (by decide) (fun _ => ?_) (fun q => absurd rfl q)
      exact next w2 H locs R2 h3.1 Z
    · refine lv_tableIn (off := 187) (tgt := 219) hx hb dL_law_32 (by decide) (by decide) (by decide) (by decide) ?_
      obtain ⟨r, w1, w2, fs, fs', ⟨x, rfl⟩, k1, k2, g0', g18, R2, h3⟩ := tw_law hR (xs (i + 1))
      have h3 := h3 h26
      refine lv_aload_n hx hb dL_law_219 rfl (lv_at hl 1 rfl) ?_
      refine lv_aload_n hx hb dL_law_220 rfl (lv_at hl 0 rfl) ?_
      refine lv_iload_n hx hb dL_law_221 rfl (lv_at hl 3 rfl) ?_
      refine lv_iconst (v := iI ((1 : Nat) : Int)) hx hb dL_law_222 (by decide) ?_
      refine lv_iadd hx hb dL_law_223 ?_
      refine va_sld hx hb hX hbl hbA Z.2.2.2.1 (law_in hL (j := 1) (by omega)) dL_law_224 ?_
      rw [law_ix hL (show i + 1 < L by omega)]
      refine fx_callV C Z (As' := []) kL_law_225 k1 (by decide) g0' rfl (fun _ => rfl) e0 rfl (Nat.le_of_ble_eq_true rfl) hl.1 (by decide) (by decide) (h3.2.1) (fun _ => rfl) (fun H locs Z => ?_)
      dsimp only [Option.toList, List.cons_append, List.nil_append]
      refine lv_aload_n hx hb dL_law_228 rfl (lv_at hl 2 rfl) ?_
      refine lv_aload_n hx hb dL_law_229 rfl (lv_at hl 0 rfl) ?_
      refine lv_iload_n hx hb dL_law_230 rfl (lv_at hl 3 rfl) ?_
      refine lv_iconst (v := iI ((1 : Nat) : Int)) hx hb dL_law_231 (by decide) ?_
      refine lv_iadd hx hb dL_law_232 ?_
      refine va_sld hx hb hX hbl hbA Z.2.2.2.1 (law_in hL (j := 1) (by omega)) dL_law_233 ?_
      rw [law_ix hL (show i + 1 < L by omega)]
      refine fx_callV C Z (As' := []) kL_law_234 k2 (by decide) g18 rfl (fun _ => rfl) e18 rfl (Nat.le_of_ble_eq_true rfl) hl.1 (by decide) (by decide) (h3.2.2) (fun _ => rfl) (fun H locs Z => ?_)
      dsimp only [Option.toList, List.cons_append, List.nil_append]
      refine lv_icmp_eq (tgt := 625) hx hb dL_law_237 (by decide) (fun _ => ?_) (fun q => absurd rfl q)
      exact next w2 H locs R2 h3.1 Z
    · refine lv_tableIn (off := 210) (tgt := 242) hx hb dL_law_32 (by decide) (by decide) (by decide) (by decide) ?_
      obtain ⟨r, w1, w2, fs, fs', ⟨x, rfl⟩, k1, k2, g0', g18, R2, h3⟩ := tw_breaks hR (xs (i + 1))
      have h3 := h3 h26
      refine lv_aload_n hx hb dL_law_242 rfl (lv_at hl 1 rfl) ?_
      refine lv_aload_n hx hb dL_law_243 rfl (lv_at hl 0 rfl) ?_
      refine lv_iload_n hx hb dL_law_244 rfl (lv_at hl 3 rfl) ?_
      refine lv_iconst (v := iI ((1 : Nat) : Int)) hx hb dL_law_245 (by decide) ?_
      refine lv_iadd hx hb dL_law_246 ?_
      refine va_sld hx hb hX hbl hbA Z.2.2.2.1 (law_in hL (j := 1) (by omega)) dL_law_247 ?_
      rw [law_ix hL (show i + 1 < L by omega)]
      refine fx_callV C Z (As' := []) kL_law_248 k1 (by decide) g0' rfl (fun _ => rfl) e0 rfl (Nat.le_of_ble_eq_true rfl) hl.1 (by decide) (by decide) (h3.2.1) (fun _ => rfl) (fun H locs Z => ?_)
      dsimp only [Option.toList, List.cons_append, List.nil_append]
      refine lv_aload_n hx hb dL_law_251 rfl (lv_at hl 2 rfl) ?_
      refine lv_aload_n hx hb dL_law_252 rfl (lv_at hl 0 rfl) ?_
      refine lv_iload_n hx hb dL_law_253 rfl (lv_at hl 3 rfl) ?_
      refine lv_iconst (v := iI ((1 : Nat) : Int)) hx hb dL_law_254 (by decide) ?_
      refine lv_iadd hx hb dL_law_255 ?_
      refine va_sld hx hb hX hbl hbA Z.2.2.2.1 (law_in hL (j := 1) (by omega)) dL_law_256 ?_
      rw [law_ix hL (show i + 1 < L by omega)]
      refine fx_callV C Z (As' := []) kL_law_257 k2 (by decide) g18 rfl (fun _ => rfl) e18 rfl (Nat.le_of_ble_eq_true rfl) hl.1 (by decide) (by decide) (h3.2.2) (fun _ => rfl) (fun H locs Z => ?_)
      dsimp only [Option.toList, List.cons_append, List.nil_append]
      refine lv_icmp_eq (tgt := 625) hx hb dL_law_260 (by decide) (fun _ => ?_) (fun q => absurd rfl q)
      exact next w2 H locs R2 h3.1 Z
    · refine lv_tableIn (off := 233) (tgt := 265) hx hb dL_law_32 (by decide) (by decide) (by decide) (by decide) ?_
      obtain ⟨r, w1, w2, fs, fs', ⟨x, rfl⟩, k1, k2, g0', g18, R2, h3⟩ := tw_flat hR 
      have h3 := h3 h26
      refine lv_aload_n hx hb dL_law_265 rfl (lv_at hl 1 rfl) ?_
      refine fx_callV C Z (As' := []) kL_law_266 k1 (by decide) g0' rfl (fun _ => rfl) e0 rfl (Nat.le_of_ble_eq_true rfl) hl.1 (by decide) (by decide) (h3.2.1) (fun _ => rfl) (fun H locs Z => ?_)
      dsimp only [Option.toList, List.cons_append, List.nil_append]
      refine lv_aload_n hx hb dL_law_269 rfl (lv_at hl 2 rfl) ?_
      refine fx_callV C Z (As' := []) kL_law_270 k2 (by decide) g18 rfl (fun _ => rfl) e18 rfl (Nat.le_of_ble_eq_true rfl) hl.1 (by decide) (by decide) (h3.2.2) (fun _ => rfl) (fun H locs Z => ?_)
      dsimp only [Option.toList, List.cons_append, List.nil_append]
      refine lv_icmp_eq (tgt := 625) hx hb dL_law_273 (by decide) (fun _ => ?_) (fun q => absurd rfl q)
      exact next w2 H locs R2 h3.1 Z
    · refine lv_tableIn (off := 246) (tgt := 278) hx hb dL_law_32 (by decide) (by decide) (by decide) (by decide) ?_
      obtain ⟨r, w1, w2, fs, fs', ⟨x, rfl⟩, k1, k2, g0', g18, R2, h3⟩ := tw_ways hR 
      have h3 := h3 h26
      refine lv_aload_n hx hb dL_law_278 rfl (lv_at hl 1 rfl) ?_
      refine fx_callV C Z (As' := []) kL_law_279 k1 (by decide) g0' rfl (fun _ => rfl) e0 rfl (Nat.le_of_ble_eq_true rfl) hl.1 (by decide) (by decide) (h3.2.1) (fun _ => rfl) (fun H locs Z => ?_)
      dsimp only [Option.toList, List.cons_append, List.nil_append]
      refine lv_aload_n hx hb dL_law_282 rfl (lv_at hl 2 rfl) ?_
      refine fx_callV C Z (As' := []) kL_law_283 k2 (by decide) g18 rfl (fun _ => rfl) e18 rfl (Nat.le_of_ble_eq_true rfl) hl.1 (by decide) (by decide) (h3.2.2) (fun _ => rfl) (fun H locs Z => ?_)
      dsimp only [Option.toList, List.cons_append, List.nil_append]
      refine lv_icmp_eq (tgt := 625) hx hb dL_law_286 (by decide) (fun _ => ?_) (fun q => absurd rfl q)
      exact next w2 H locs R2 h3.1 Z
    · refine lv_tableIn (off := 259) (tgt := 291) hx hb dL_law_32 (by decide) (by decide) (by decide) (by decide) ?_
      obtain ⟨r, w1, w2, fs, fs', ⟨x, rfl⟩, k1, k2, g0', g18, R2, h3⟩ := tw_bulk hR (xs (i + 1))
      have h3 := h3 h26
      refine lv_aload_n hx hb dL_law_291 rfl (lv_at hl 1 rfl) ?_
      refine lv_aload_n hx hb dL_law_292 rfl (lv_at hl 0 rfl) ?_
      refine lv_iload_n hx hb dL_law_293 rfl (lv_at hl 3 rfl) ?_
      refine lv_iconst (v := iI ((1 : Nat) : Int)) hx hb dL_law_294 (by decide) ?_
      refine lv_iadd hx hb dL_law_295 ?_
      refine va_sld hx hb hX hbl hbA Z.2.2.2.1 (law_in hL (j := 1) (by omega)) dL_law_296 ?_
      rw [law_ix hL (show i + 1 < L by omega)]
      refine fx_callV C Z (As' := []) kL_law_297 k1 (by decide) g0' rfl (fun _ => rfl) e0 rfl (Nat.le_of_ble_eq_true rfl) hl.1 (by decide) (by decide) (h3.2.1) (fun _ => rfl) (fun H locs Z => ?_)
      dsimp only [Option.toList, List.cons_append, List.nil_append]
      refine lv_aload_n hx hb dL_law_300 rfl (lv_at hl 2 rfl) ?_
      refine lv_aload_n hx hb dL_law_301 rfl (lv_at hl 0 rfl) ?_
      refine lv_iload_n hx hb dL_law_302 rfl (lv_at hl 3 rfl) ?_
      refine lv_iconst (v := iI ((1 : Nat) : Int)) hx hb dL_law_303 (by decide) ?_
      refine lv_iadd hx hb dL_law_304 ?_
      refine va_sld hx hb hX hbl hbA Z.2.2.2.1 (law_in hL (j := 1) (by omega)) dL_law_305 ?_
      rw [law_ix hL (show i + 1 < L by omega)]
      refine fx_callV C Z (As' := []) kL_law_306 k2 (by decide) g18 rfl (fun _ => rfl) e18 rfl (Nat.le_of_ble_eq_true rfl) hl.1 (by decide) (by decide) (h3.2.2) (fun _ => rfl) (fun H locs Z => ?_)
      dsimp only [Option.toList, List.cons_append, List.nil_append]
      refine W.lcmp hx hb dL_law_309 ?_
      refine lv_if_eq (tgt := 625) hx hb dL_law_310 (by decide) (fun _ => ?_) (fun q => absurd (lg_self _) q)
      exact next w2 H locs R2 h3.1 Z
    · refine lv_tableIn (off := 283) (tgt := 315) hx hb dL_law_32 (by decide) (by decide) (by decide) (by decide) ?_
      obtain ⟨r, w1, w2, fs, fs', ⟨x, rfl⟩, k1, k2, g0', g18, R2, h3⟩ := tw_add hR (xs (i + 1)) (xs (i + 2))
      have h3 := h3 h26
      refine lv_aload_n hx hb dL_law_315 rfl (lv_at hl 1 rfl) ?_
      refine lv_aload_n hx hb dL_law_316 rfl (lv_at hl 0 rfl) ?_
      refine lv_iload_n hx hb dL_law_317 rfl (lv_at hl 3 rfl) ?_
      refine lv_iconst (v := iI ((1 : Nat) : Int)) hx hb dL_law_318 (by decide) ?_
      refine lv_iadd hx hb dL_law_319 ?_
      refine va_sld hx hb hX hbl hbA Z.2.2.2.1 (law_in hL (j := 1) (by omega)) dL_law_320 ?_
      rw [law_ix hL (show i + 1 < L by omega)]
      refine lv_aload_n hx hb dL_law_321 rfl (lv_at hl 0 rfl) ?_
      refine lv_iload_n hx hb dL_law_322 rfl (lv_at hl 3 rfl) ?_
      refine lv_iconst (v := iI ((2 : Nat) : Int)) hx hb dL_law_323 (by decide) ?_
      refine lv_iadd hx hb dL_law_324 ?_
      refine va_sld hx hb hX hbl hbA Z.2.2.2.1 (law_in hL (j := 2) (by omega)) dL_law_325 ?_
      rw [law_ix hL (show i + 2 < L by omega)]
      refine fx_callV C Z (As' := []) kL_law_326 k1 (by decide) g0' rfl (fun _ => rfl) e0 rfl (Nat.le_of_ble_eq_true rfl) hl.1 (by decide) (by decide) (h3.2.1) (fun _ => rfl) (fun H locs Z => ?_)
      dsimp only [Option.toList, List.cons_append, List.nil_append]
      refine lv_aload_n hx hb dL_law_329 rfl (lv_at hl 2 rfl) ?_
      refine lv_aload_n hx hb dL_law_330 rfl (lv_at hl 0 rfl) ?_
      refine lv_iload_n hx hb dL_law_331 rfl (lv_at hl 3 rfl) ?_
      refine lv_iconst (v := iI ((1 : Nat) : Int)) hx hb dL_law_332 (by decide) ?_
      refine lv_iadd hx hb dL_law_333 ?_
      refine va_sld hx hb hX hbl hbA Z.2.2.2.1 (law_in hL (j := 1) (by omega)) dL_law_334 ?_
      rw [law_ix hL (show i + 1 < L by omega)]
      refine lv_aload_n hx hb dL_law_335 rfl (lv_at hl 0 rfl) ?_
      refine lv_iload_n hx hb dL_law_336 rfl (lv_at hl 3 rfl) ?_
      refine lv_iconst (v := iI ((2 : Nat) : Int)) hx hb dL_law_337 (by decide) ?_
      refine lv_iadd hx hb dL_law_338 ?_
      refine va_sld hx hb hX hbl hbA Z.2.2.2.1 (law_in hL (j := 2) (by omega)) dL_law_339 ?_
      rw [law_ix hL (show i + 2 < L by omega)]
      refine fx_callV C Z (As' := []) kL_law_340 k2 (by decide) g18 rfl (fun _ => rfl) e18 rfl (Nat.le_of_ble_eq_true rfl) hl.1 (by decide) (by decide) (h3.2.2) (fun _ => rfl) (fun H locs Z => ?_)
      dsimp only [Option.toList, List.cons_append, List.nil_append]
      refine lv_icmp_eq (tgt := 625) hx hb dL_law_343 (by decide) (fun _ => ?_) (fun q => absurd rfl q)
      exact next w2 H locs R2 h3.1 Z
    · refine lv_tableIn (off := 316) (tgt := 348) hx hb dL_law_32 (by decide) (by decide) (by decide) (by decide) ?_
      obtain ⟨r, w1, w2, fs, fs', ⟨x, rfl⟩, k1, k2, g0', g18, R2, h3⟩ := tw_peel hR (xs (i + 1))
      have h3 := h3 h26
      refine lv_aload_n hx hb dL_law_348 rfl (lv_at hl 1 rfl) ?_
      refine lv_aload_n hx hb dL_law_349 rfl (lv_at hl 0 rfl) ?_
      refine lv_iload_n hx hb dL_law_350 rfl (lv_at hl 3 rfl) ?_
      refine lv_iconst (v := iI ((1 : Nat) : Int)) hx hb dL_law_351 (by decide) ?_
      refine lv_iadd hx hb dL_law_352 ?_
      refine va_sld hx hb hX hbl hbA Z.2.2.2.1 (law_in hL (j := 1) (by omega)) dL_law_353 ?_
      rw [law_ix hL (show i + 1 < L by omega)]
      refine fx_callV C Z (As' := []) kL_law_354 k1 (by decide) g0' rfl (fun _ => rfl) e0 rfl (Nat.le_of_ble_eq_true rfl) hl.1 (by decide) (by decide) (h3.2.1) (fun _ => rfl) (fun H locs Z => ?_)
      dsimp only [Option.toList, List.cons_append, List.nil_append]
      refine lv_aload_n hx hb dL_law_357 rfl (lv_at hl 2 rfl) ?_
      refine lv_aload_n hx hb dL_law_358 rfl (lv_at hl 0 rfl) ?_
      refine lv_iload_n hx hb dL_law_359 rfl (lv_at hl 3 rfl) ?_
      refine lv_iconst (v := iI ((1 : Nat) : Int)) hx hb dL_law_360 (by decide) ?_
      refine lv_iadd hx hb dL_law_361 ?_
      refine va_sld hx hb hX hbl hbA Z.2.2.2.1 (law_in hL (j := 1) (by omega)) dL_law_362 ?_
      rw [law_ix hL (show i + 1 < L by omega)]
      refine fx_callV C Z (As' := []) kL_law_363 k2 (by decide) g18 rfl (fun _ => rfl) e18 rfl (Nat.le_of_ble_eq_true rfl) hl.1 (by decide) (by decide) (h3.2.2) (fun _ => rfl) (fun H locs Z => ?_)
      dsimp only [Option.toList, List.cons_append, List.nil_append]
      refine lv_icmp_eq (tgt := 625) hx hb dL_law_366 (by decide) (fun _ => ?_) (fun q => absurd rfl q)
      exact next w2 H locs R2 h3.1 Z
    · refine lv_tableIn (off := 339) (tgt := 371) hx hb dL_law_32 (by decide) (by decide) (by decide) (by decide) ?_
      obtain ⟨r, w1, w2, fs, fs', ⟨x, rfl⟩, k1, k2, g0', g18, R2, h3⟩ := tw_left hR (xs (i + 1)) (xs (i + 2))
      have h3 := h3 h26
      refine lv_aload_n hx hb dL_law_371 rfl (lv_at hl 1 rfl) ?_
      refine lv_aload_n hx hb dL_law_372 rfl (lv_at hl 0 rfl) ?_
      refine lv_iload_n hx hb dL_law_373 rfl (lv_at hl 3 rfl) ?_
      refine lv_iconst (v := iI ((1 : Nat) : Int)) hx hb dL_law_374 (by decide) ?_
      refine lv_iadd hx hb dL_law_375 ?_
      refine va_sld hx hb hX hbl hbA Z.2.2.2.1 (law_in hL (j := 1) (by omega)) dL_law_376 ?_
      rw [law_ix hL (show i + 1 < L by omega)]
      refine lv_aload_n hx hb dL_law_377 rfl (lv_at hl 0 rfl) ?_
      refine lv_iload_n hx hb dL_law_378 rfl (lv_at hl 3 rfl) ?_
      refine lv_iconst (v := iI ((2 : Nat) : Int)) hx hb dL_law_379 (by decide) ?_
      refine lv_iadd hx hb dL_law_380 ?_
      refine va_sld hx hb hX hbl hbA Z.2.2.2.1 (law_in hL (j := 2) (by omega)) dL_law_381 ?_
      rw [law_ix hL (show i + 2 < L by omega)]
      refine fx_callV C Z (As' := []) kL_law_382 k1 (by decide) g0' rfl (fun _ => rfl) e0 rfl (Nat.le_of_ble_eq_true rfl) hl.1 (by decide) (by decide) (h3.2.1) (fun _ => rfl) (fun H locs Z => ?_)
      dsimp only [Option.toList, List.cons_append, List.nil_append]
      refine lv_aload_n hx hb dL_law_385 rfl (lv_at hl 2 rfl) ?_
      refine lv_aload_n hx hb dL_law_386 rfl (lv_at hl 0 rfl) ?_
      refine lv_iload_n hx hb dL_law_387 rfl (lv_at hl 3 rfl) ?_
      refine lv_iconst (v := iI ((1 : Nat) : Int)) hx hb dL_law_388 (by decide) ?_
      refine lv_iadd hx hb dL_law_389 ?_
      refine va_sld hx hb hX hbl hbA Z.2.2.2.1 (law_in hL (j := 1) (by omega)) dL_law_390 ?_
      rw [law_ix hL (show i + 1 < L by omega)]
      refine lv_aload_n hx hb dL_law_391 rfl (lv_at hl 0 rfl) ?_
      refine lv_iload_n hx hb dL_law_392 rfl (lv_at hl 3 rfl) ?_
      refine lv_iconst (v := iI ((2 : Nat) : Int)) hx hb dL_law_393 (by decide) ?_
      refine lv_iadd hx hb dL_law_394 ?_
      refine va_sld hx hb hX hbl hbA Z.2.2.2.1 (law_in hL (j := 2) (by omega)) dL_law_395 ?_
      rw [law_ix hL (show i + 2 < L by omega)]
      refine fx_callV C Z (As' := []) kL_law_396 k2 (by decide) g18 rfl (fun _ => rfl) e18 rfl (Nat.le_of_ble_eq_true rfl) hl.1 (by decide) (by decide) (h3.2.2) (fun _ => rfl) (fun H locs Z => ?_)
      dsimp only [Option.toList, List.cons_append, List.nil_append]
      refine lv_icmp_eq (tgt := 625) hx hb dL_law_399 (by decide) (fun _ => ?_) (fun q => absurd rfl q)
      exact next w2 H locs R2 h3.1 Z
    · refine lv_tableIn (off := 372) (tgt := 404) hx hb dL_law_32 (by decide) (by decide) (by decide) (by decide) ?_
      obtain ⟨r, w1, w2, fs, fs', ⟨x, rfl⟩, k1, k2, g0', g18, R2, h3⟩ := tw_line hR (xs (i + 1)) (xs (i + 2)) (xs (i + 3))
      have h3 := h3 h26
      refine lv_aload_n hx hb dL_law_404 rfl (lv_at hl 1 rfl) ?_
      refine lv_aload_n hx hb dL_law_405 rfl (lv_at hl 0 rfl) ?_
      refine lv_iload_n hx hb dL_law_406 rfl (lv_at hl 3 rfl) ?_
      refine lv_iconst (v := iI ((1 : Nat) : Int)) hx hb dL_law_407 (by decide) ?_
      refine lv_iadd hx hb dL_law_408 ?_
      refine va_sld hx hb hX hbl hbA Z.2.2.2.1 (law_in hL (j := 1) (by omega)) dL_law_409 ?_
      rw [law_ix hL (show i + 1 < L by omega)]
      refine lv_aload_n hx hb dL_law_410 rfl (lv_at hl 0 rfl) ?_
      refine lv_iload_n hx hb dL_law_411 rfl (lv_at hl 3 rfl) ?_
      refine lv_iconst (v := iI ((2 : Nat) : Int)) hx hb dL_law_412 (by decide) ?_
      refine lv_iadd hx hb dL_law_413 ?_
      refine va_sld hx hb hX hbl hbA Z.2.2.2.1 (law_in hL (j := 2) (by omega)) dL_law_414 ?_
      rw [law_ix hL (show i + 2 < L by omega)]
      refine lv_aload_n hx hb dL_law_415 rfl (lv_at hl 0 rfl) ?_
      refine lv_iload_n hx hb dL_law_416 rfl (lv_at hl 3 rfl) ?_
      refine lv_iconst (v := iI ((3 : Nat) : Int)) hx hb dL_law_417 (by decide) ?_
      refine lv_iadd hx hb dL_law_418 ?_
      refine va_sld hx hb hX hbl hbA Z.2.2.2.1 (law_in hL (j := 3) (by omega)) dL_law_419 ?_
      rw [law_ix hL (show i + 3 < L by omega)]
      refine fx_callV C Z (As' := []) kL_law_420 k1 (by decide) g0' rfl (fun _ => rfl) e0 rfl (Nat.le_of_ble_eq_true rfl) hl.1 (by decide) (by decide) (h3.2.1) (fun _ => rfl) (fun H locs Z => ?_)
      dsimp only [Option.toList, List.cons_append, List.nil_append]
      refine lv_aload_n hx hb dL_law_423 rfl (lv_at hl 2 rfl) ?_
      refine lv_aload_n hx hb dL_law_424 rfl (lv_at hl 0 rfl) ?_
      refine lv_iload_n hx hb dL_law_425 rfl (lv_at hl 3 rfl) ?_
      refine lv_iconst (v := iI ((1 : Nat) : Int)) hx hb dL_law_426 (by decide) ?_
      refine lv_iadd hx hb dL_law_427 ?_
      refine va_sld hx hb hX hbl hbA Z.2.2.2.1 (law_in hL (j := 1) (by omega)) dL_law_428 ?_
      rw [law_ix hL (show i + 1 < L by omega)]
      refine lv_aload_n hx hb dL_law_429 rfl (lv_at hl 0 rfl) ?_
      refine lv_iload_n hx hb dL_law_430 rfl (lv_at hl 3 rfl) ?_
      refine lv_iconst (v := iI ((2 : Nat) : Int)) hx hb dL_law_431 (by decide) ?_
      refine lv_iadd hx hb dL_law_432 ?_
      refine va_sld hx hb hX hbl hbA Z.2.2.2.1 (law_in hL (j := 2) (by omega)) dL_law_433 ?_
      rw [law_ix hL (show i + 2 < L by omega)]
      refine lv_aload_n hx hb dL_law_434 rfl (lv_at hl 0 rfl) ?_
      refine lv_iload_n hx hb dL_law_435 rfl (lv_at hl 3 rfl) ?_
      refine lv_iconst (v := iI ((3 : Nat) : Int)) hx hb dL_law_436 (by decide) ?_
      refine lv_iadd hx hb dL_law_437 ?_
      refine va_sld hx hb hX hbl hbA Z.2.2.2.1 (law_in hL (j := 3) (by omega)) dL_law_438 ?_
      rw [law_ix hL (show i + 3 < L by omega)]
      refine fx_callV C Z (As' := []) kL_law_439 k2 (by decide) g18 rfl (fun _ => rfl) e18 rfl (Nat.le_of_ble_eq_true rfl) hl.1 (by decide) (by decide) (h3.2.2) (fun _ => rfl) (fun H locs Z => ?_)
      dsimp only [Option.toList, List.cons_append, List.nil_append]
      refine lv_icmp_eq (tgt := 625) hx hb dL_law_442 (by decide) (fun _ => ?_) (fun q => absurd rfl q)
      exact next w2 H locs R2 h3.1 Z
    · refine lv_tableIn (off := 415) (tgt := 447) hx hb dL_law_32 (by decide) (by decide) (by decide) (by decide) ?_
      obtain ⟨r, w1, w2, fs, fs', ⟨x, rfl⟩, k1, k2, g0', g18, R2, h3⟩ := tw_best hR (xs (i + 1))
      have h3 := h3 h26
      refine lv_aload_n hx hb dL_law_447 rfl (lv_at hl 1 rfl) ?_
      refine lv_aload_n hx hb dL_law_448 rfl (lv_at hl 0 rfl) ?_
      refine lv_iload_n hx hb dL_law_449 rfl (lv_at hl 3 rfl) ?_
      refine lv_iconst (v := iI ((1 : Nat) : Int)) hx hb dL_law_450 (by decide) ?_
      refine lv_iadd hx hb dL_law_451 ?_
      refine va_sld hx hb hX hbl hbA Z.2.2.2.1 (law_in hL (j := 1) (by omega)) dL_law_452 ?_
      rw [law_ix hL (show i + 1 < L by omega)]
      refine fx_callV C Z (As' := []) kL_law_453 k1 (by decide) g0' rfl (fun _ => rfl) e0 rfl (Nat.le_of_ble_eq_true rfl) hl.1 (by decide) (by decide) (h3.2.1) (fun _ => rfl) (fun H locs Z => ?_)
      dsimp only [Option.toList, List.cons_append, List.nil_append]
      refine lv_aload_n hx hb dL_law_456 rfl (lv_at hl 2 rfl) ?_
      refine lv_aload_n hx hb dL_law_457 rfl (lv_at hl 0 rfl) ?_
      refine lv_iload_n hx hb dL_law_458 rfl (lv_at hl 3 rfl) ?_
      refine lv_iconst (v := iI ((1 : Nat) : Int)) hx hb dL_law_459 (by decide) ?_
      refine lv_iadd hx hb dL_law_460 ?_
      refine va_sld hx hb hX hbl hbA Z.2.2.2.1 (law_in hL (j := 1) (by omega)) dL_law_461 ?_
      rw [law_ix hL (show i + 1 < L by omega)]
      refine fx_callV C Z (As' := []) kL_law_462 k2 (by decide) g18 rfl (fun _ => rfl) e18 rfl (Nat.le_of_ble_eq_true rfl) hl.1 (by decide) (by decide) (h3.2.2) (fun _ => rfl) (fun H locs Z => ?_)
      dsimp only [Option.toList, List.cons_append, List.nil_append]
      refine lv_icmp_eq (tgt := 625) hx hb dL_law_465 (by decide) (fun _ => ?_) (fun q => absurd rfl q)
      exact next w2 H locs R2 h3.1 Z
    · refine lv_tableIn (off := 438) (tgt := 470) hx hb dL_law_32 (by decide) (by decide) (by decide) (by decide) ?_
      obtain ⟨r, w1, w2, fs, fs', ⟨x, rfl⟩, k1, k2, g0', g18, R2, h3⟩ := tw_centres hR (xs (i + 1)) (xs (i + 2)) (xs (i + 3))
      have h3 := h3 h26
      refine lv_aload_n hx hb dL_law_470 rfl (lv_at hl 1 rfl) ?_
      refine lv_aload_n hx hb dL_law_471 rfl (lv_at hl 0 rfl) ?_
      refine lv_iload_n hx hb dL_law_472 rfl (lv_at hl 3 rfl) ?_
      refine lv_iconst (v := iI ((1 : Nat) : Int)) hx hb dL_law_473 (by decide) ?_
      refine lv_iadd hx hb dL_law_474 ?_
      refine va_sld hx hb hX hbl hbA Z.2.2.2.1 (law_in hL (j := 1) (by omega)) dL_law_475 ?_
      rw [law_ix hL (show i + 1 < L by omega)]
      refine lv_aload_n hx hb dL_law_476 rfl (lv_at hl 0 rfl) ?_
      refine lv_iload_n hx hb dL_law_477 rfl (lv_at hl 3 rfl) ?_
      refine lv_iconst (v := iI ((2 : Nat) : Int)) hx hb dL_law_478 (by decide) ?_
      refine lv_iadd hx hb dL_law_479 ?_
      refine va_sld hx hb hX hbl hbA Z.2.2.2.1 (law_in hL (j := 2) (by omega)) dL_law_480 ?_
      rw [law_ix hL (show i + 2 < L by omega)]
      refine lv_aload_n hx hb dL_law_481 rfl (lv_at hl 0 rfl) ?_
      refine lv_iload_n hx hb dL_law_482 rfl (lv_at hl 3 rfl) ?_
      refine lv_iconst (v := iI ((3 : Nat) : Int)) hx hb dL_law_483 (by decide) ?_
      refine lv_iadd hx hb dL_law_484 ?_
      refine va_sld hx hb hX hbl hbA Z.2.2.2.1 (law_in hL (j := 3) (by omega)) dL_law_485 ?_
      rw [law_ix hL (show i + 3 < L by omega)]
      refine fx_callV C Z (As' := []) kL_law_486 k1 (by decide) g0' rfl (fun _ => rfl) e0 rfl (Nat.le_of_ble_eq_true rfl) hl.1 (by decide) (by decide) (h3.2.1) (fun _ => rfl) (fun H locs Z => ?_)
      dsimp only [Option.toList, List.cons_append, List.nil_append]
      refine lv_aload_n hx hb dL_law_489 rfl (lv_at hl 2 rfl) ?_
      refine lv_aload_n hx hb dL_law_490 rfl (lv_at hl 0 rfl) ?_
      refine lv_iload_n hx hb dL_law_491 rfl (lv_at hl 3 rfl) ?_
      refine lv_iconst (v := iI ((1 : Nat) : Int)) hx hb dL_law_492 (by decide) ?_
      refine lv_iadd hx hb dL_law_493 ?_
      refine va_sld hx hb hX hbl hbA Z.2.2.2.1 (law_in hL (j := 1) (by omega)) dL_law_494 ?_
      rw [law_ix hL (show i + 1 < L by omega)]
      refine lv_aload_n hx hb dL_law_495 rfl (lv_at hl 0 rfl) ?_
      refine lv_iload_n hx hb dL_law_496 rfl (lv_at hl 3 rfl) ?_
      refine lv_iconst (v := iI ((2 : Nat) : Int)) hx hb dL_law_497 (by decide) ?_
      refine lv_iadd hx hb dL_law_498 ?_
      refine va_sld hx hb hX hbl hbA Z.2.2.2.1 (law_in hL (j := 2) (by omega)) dL_law_499 ?_
      rw [law_ix hL (show i + 2 < L by omega)]
      refine lv_aload_n hx hb dL_law_500 rfl (lv_at hl 0 rfl) ?_
      refine lv_iload_n hx hb dL_law_501 rfl (lv_at hl 3 rfl) ?_
      refine lv_iconst (v := iI ((3 : Nat) : Int)) hx hb dL_law_502 (by decide) ?_
      refine lv_iadd hx hb dL_law_503 ?_
      refine va_sld hx hb hX hbl hbA Z.2.2.2.1 (law_in hL (j := 3) (by omega)) dL_law_504 ?_
      rw [law_ix hL (show i + 3 < L by omega)]
      refine fx_callV C Z (As' := []) kL_law_505 k2 (by decide) g18 rfl (fun _ => rfl) e18 rfl (Nat.le_of_ble_eq_true rfl) hl.1 (by decide) (by decide) (h3.2.2) (fun _ => rfl) (fun H locs Z => ?_)
      dsimp only [Option.toList, List.cons_append, List.nil_append]
      refine lv_icmp_eq (tgt := 625) hx hb dL_law_508 (by decide) (fun _ => ?_) (fun q => absurd rfl q)
      exact next w2 H locs R2 h3.1 Z
    · refine lv_tableIn (off := 481) (tgt := 513) hx hb dL_law_32 (by decide) (by decide) (by decide) (by decide) ?_
      obtain ⟨r, w1, w2, fs, fs', ⟨x, rfl⟩, k1, k2, g0', g18, R2, h3⟩ := tw_number hR (xs (i + 1)) (xs (i + 2))
      have h3 := h3 h26
      refine lv_aload_n hx hb dL_law_513 rfl (lv_at hl 1 rfl) ?_
      refine lv_aload_n hx hb dL_law_514 rfl (lv_at hl 0 rfl) ?_
      refine lv_iload_n hx hb dL_law_515 rfl (lv_at hl 3 rfl) ?_
      refine lv_iconst (v := iI ((1 : Nat) : Int)) hx hb dL_law_516 (by decide) ?_
      refine lv_iadd hx hb dL_law_517 ?_
      refine va_sld hx hb hX hbl hbA Z.2.2.2.1 (law_in hL (j := 1) (by omega)) dL_law_518 ?_
      rw [law_ix hL (show i + 1 < L by omega)]
      refine lv_aload_n hx hb dL_law_519 rfl (lv_at hl 0 rfl) ?_
      refine lv_iload_n hx hb dL_law_520 rfl (lv_at hl 3 rfl) ?_
      refine lv_iconst (v := iI ((2 : Nat) : Int)) hx hb dL_law_521 (by decide) ?_
      refine lv_iadd hx hb dL_law_522 ?_
      refine va_sld hx hb hX hbl hbA Z.2.2.2.1 (law_in hL (j := 2) (by omega)) dL_law_523 ?_
      rw [law_ix hL (show i + 2 < L by omega)]
      refine fx_callV C Z (As' := []) kL_law_524 k1 (by decide) g0' rfl (fun _ => rfl) e0 rfl (Nat.le_of_ble_eq_true rfl) hl.1 (by decide) (by decide) (h3.2.1) (fun _ => rfl) (fun H locs Z => ?_)
      dsimp only [Option.toList, List.cons_append, List.nil_append]
      refine lv_aload_n hx hb dL_law_527 rfl (lv_at hl 2 rfl) ?_
      refine lv_aload_n hx hb dL_law_528 rfl (lv_at hl 0 rfl) ?_
      refine lv_iload_n hx hb dL_law_529 rfl (lv_at hl 3 rfl) ?_
      refine lv_iconst (v := iI ((1 : Nat) : Int)) hx hb dL_law_530 (by decide) ?_
      refine lv_iadd hx hb dL_law_531 ?_
      refine va_sld hx hb hX hbl hbA Z.2.2.2.1 (law_in hL (j := 1) (by omega)) dL_law_532 ?_
      rw [law_ix hL (show i + 1 < L by omega)]
      refine lv_aload_n hx hb dL_law_533 rfl (lv_at hl 0 rfl) ?_
      refine lv_iload_n hx hb dL_law_534 rfl (lv_at hl 3 rfl) ?_
      refine lv_iconst (v := iI ((2 : Nat) : Int)) hx hb dL_law_535 (by decide) ?_
      refine lv_iadd hx hb dL_law_536 ?_
      refine va_sld hx hb hX hbl hbA Z.2.2.2.1 (law_in hL (j := 2) (by omega)) dL_law_537 ?_
      rw [law_ix hL (show i + 2 < L by omega)]
      refine fx_callV C Z (As' := []) kL_law_538 k2 (by decide) g18 rfl (fun _ => rfl) e18 rfl (Nat.le_of_ble_eq_true rfl) hl.1 (by decide) (by decide) (h3.2.2) (fun _ => rfl) (fun H locs Z => ?_)
      dsimp only [Option.toList, List.cons_append, List.nil_append]
      refine lv_icmp_eq (tgt := 625) hx hb dL_law_541 (by decide) (fun _ => ?_) (fun q => absurd rfl q)
      exact next w2 H locs R2 h3.1 Z
    · refine lv_tableIn (off := 514) (tgt := 546) hx hb dL_law_32 (by decide) (by decide) (by decide) (by decide) ?_
      obtain ⟨r, w1, w2, fs, fs', ⟨x, rfl⟩, k1, k2, g0', g18, R2, h3⟩ := tw_signs hR (xs (i + 1)) (xs (i + 2))
      have h3 := h3 h26
      refine lv_aload_n hx hb dL_law_546 rfl (lv_at hl 1 rfl) ?_
      refine lv_aload_n hx hb dL_law_547 rfl (lv_at hl 0 rfl) ?_
      refine lv_iload_n hx hb dL_law_548 rfl (lv_at hl 3 rfl) ?_
      refine lv_iconst (v := iI ((1 : Nat) : Int)) hx hb dL_law_549 (by decide) ?_
      refine lv_iadd hx hb dL_law_550 ?_
      refine va_sld hx hb hX hbl hbA Z.2.2.2.1 (law_in hL (j := 1) (by omega)) dL_law_551 ?_
      rw [law_ix hL (show i + 1 < L by omega)]
      refine lv_aload_n hx hb dL_law_552 rfl (lv_at hl 0 rfl) ?_
      refine lv_iload_n hx hb dL_law_553 rfl (lv_at hl 3 rfl) ?_
      refine lv_iconst (v := iI ((2 : Nat) : Int)) hx hb dL_law_554 (by decide) ?_
      refine lv_iadd hx hb dL_law_555 ?_
      refine va_sld hx hb hX hbl hbA Z.2.2.2.1 (law_in hL (j := 2) (by omega)) dL_law_556 ?_
      rw [law_ix hL (show i + 2 < L by omega)]
      refine fx_callV C Z (As' := []) kL_law_557 k1 (by decide) g0' rfl (fun _ => rfl) e0 rfl (Nat.le_of_ble_eq_true rfl) hl.1 (by decide) (by decide) (h3.2.1) (fun _ => rfl) (fun H locs Z => ?_)
      dsimp only [Option.toList, List.cons_append, List.nil_append]
      refine lv_aload_n hx hb dL_law_560 rfl (lv_at hl 2 rfl) ?_
      refine lv_aload_n hx hb dL_law_561 rfl (lv_at hl 0 rfl) ?_
      refine lv_iload_n hx hb dL_law_562 rfl (lv_at hl 3 rfl) ?_
      refine lv_iconst (v := iI ((1 : Nat) : Int)) hx hb dL_law_563 (by decide) ?_
      refine lv_iadd hx hb dL_law_564 ?_
      refine va_sld hx hb hX hbl hbA Z.2.2.2.1 (law_in hL (j := 1) (by omega)) dL_law_565 ?_
      rw [law_ix hL (show i + 1 < L by omega)]
      refine lv_aload_n hx hb dL_law_566 rfl (lv_at hl 0 rfl) ?_
      refine lv_iload_n hx hb dL_law_567 rfl (lv_at hl 3 rfl) ?_
      refine lv_iconst (v := iI ((2 : Nat) : Int)) hx hb dL_law_568 (by decide) ?_
      refine lv_iadd hx hb dL_law_569 ?_
      refine va_sld hx hb hX hbl hbA Z.2.2.2.1 (law_in hL (j := 2) (by omega)) dL_law_570 ?_
      rw [law_ix hL (show i + 2 < L by omega)]
      refine fx_callV C Z (As' := []) kL_law_571 k2 (by decide) g18 rfl (fun _ => rfl) e18 rfl (Nat.le_of_ble_eq_true rfl) hl.1 (by decide) (by decide) (h3.2.2) (fun _ => rfl) (fun H locs Z => ?_)
      dsimp only [Option.toList, List.cons_append, List.nil_append]
      refine lv_icmp_eq (tgt := 625) hx hb dL_law_574 (by decide) (fun _ => ?_) (fun q => absurd rfl q)
      exact next w2 H locs R2 h3.1 Z
    · refine lv_tableIn (off := 547) (tgt := 579) hx hb dL_law_32 (by decide) (by decide) (by decide) (by decide) ?_
      obtain ⟨r, w1, w2, fs, fs', ⟨x, rfl⟩, k1, k2, g0', g18, R2, h3⟩ := tw_least hR (xs (i + 1)) (xs (i + 2))
      have h3 := h3 h26
      refine lv_aload_n hx hb dL_law_579 rfl (lv_at hl 1 rfl) ?_
      refine lv_aload_n hx hb dL_law_580 rfl (lv_at hl 0 rfl) ?_
      refine lv_iload_n hx hb dL_law_581 rfl (lv_at hl 3 rfl) ?_
      refine lv_iconst (v := iI ((1 : Nat) : Int)) hx hb dL_law_582 (by decide) ?_
      refine lv_iadd hx hb dL_law_583 ?_
      refine va_sld hx hb hX hbl hbA Z.2.2.2.1 (law_in hL (j := 1) (by omega)) dL_law_584 ?_
      rw [law_ix hL (show i + 1 < L by omega)]
      refine lv_aload_n hx hb dL_law_585 rfl (lv_at hl 0 rfl) ?_
      refine lv_iload_n hx hb dL_law_586 rfl (lv_at hl 3 rfl) ?_
      refine lv_iconst (v := iI ((2 : Nat) : Int)) hx hb dL_law_587 (by decide) ?_
      refine lv_iadd hx hb dL_law_588 ?_
      refine va_sld hx hb hX hbl hbA Z.2.2.2.1 (law_in hL (j := 2) (by omega)) dL_law_589 ?_
      rw [law_ix hL (show i + 2 < L by omega)]
      refine fx_callV C Z (As' := []) kL_law_590 k1 (by decide) g0' rfl (fun _ => rfl) e0 rfl (Nat.le_of_ble_eq_true rfl) hl.1 (by decide) (by decide) (h3.2.1) (fun _ => rfl) (fun H locs Z => ?_)
      dsimp only [Option.toList, List.cons_append, List.nil_append]
      refine lv_aload_n hx hb dL_law_593 rfl (lv_at hl 2 rfl) ?_
      refine lv_aload_n hx hb dL_law_594 rfl (lv_at hl 0 rfl) ?_
      refine lv_iload_n hx hb dL_law_595 rfl (lv_at hl 3 rfl) ?_
      refine lv_iconst (v := iI ((1 : Nat) : Int)) hx hb dL_law_596 (by decide) ?_
      refine lv_iadd hx hb dL_law_597 ?_
      refine va_sld hx hb hX hbl hbA Z.2.2.2.1 (law_in hL (j := 1) (by omega)) dL_law_598 ?_
      rw [law_ix hL (show i + 1 < L by omega)]
      refine lv_aload_n hx hb dL_law_599 rfl (lv_at hl 0 rfl) ?_
      refine lv_iload_n hx hb dL_law_600 rfl (lv_at hl 3 rfl) ?_
      refine lv_iconst (v := iI ((2 : Nat) : Int)) hx hb dL_law_601 (by decide) ?_
      refine lv_iadd hx hb dL_law_602 ?_
      refine va_sld hx hb hX hbl hbA Z.2.2.2.1 (law_in hL (j := 2) (by omega)) dL_law_603 ?_
      rw [law_ix hL (show i + 2 < L by omega)]
      refine fx_callV C Z (As' := []) kL_law_604 k2 (by decide) g18 rfl (fun _ => rfl) e18 rfl (Nat.le_of_ble_eq_true rfl) hl.1 (by decide) (by decide) (h3.2.2) (fun _ => rfl) (fun H locs Z => ?_)
      dsimp only [Option.toList, List.cons_append, List.nil_append]
      refine lv_icmp_eq (tgt := 625) hx hb dL_law_607 (by decide) (fun _ => ?_) (fun q => absurd rfl q)
      exact next w2 H locs R2 h3.1 Z
    · refine lv_tableIn (off := 580) (tgt := 612) hx hb dL_law_32 (by decide) (by decide) (by decide) (by decide) ?_
      obtain ⟨r, w1, w2, fs, fs', ⟨x, rfl⟩, k1, k2, g0', g18, R2, h3⟩ := tw_count hR 
      have h3 := h3 h26
      refine lv_aload_n hx hb dL_law_612 rfl (lv_at hl 1 rfl) ?_
      refine fx_callV C Z (As' := []) kL_law_613 k1 (by decide) g0' rfl (fun _ => rfl) e0 rfl (Nat.le_of_ble_eq_true rfl) hl.1 (by decide) (by decide) (h3.2.1) (fun _ => rfl) (fun H locs Z => ?_)
      dsimp only [Option.toList, List.cons_append, List.nil_append]
      refine lv_aload_n hx hb dL_law_616 rfl (lv_at hl 2 rfl) ?_
      refine fx_callV C Z (As' := []) kL_law_617 k2 (by decide) g18 rfl (fun _ => rfl) e18 rfl (Nat.le_of_ble_eq_true rfl) hl.1 (by decide) (by decide) (h3.2.2) (fun _ => rfl) (fun H locs Z => ?_)
      dsimp only [Option.toList, List.cons_append, List.nil_append]
      refine lv_icmp_eq (tgt := 625) hx hb dL_law_620 (by decide) (fun _ => ?_) (fun q => absurd rfl q)
      exact next w2 H locs R2 h3.1 Z
    · refine lv_tableOut (tgt := 625) hx hb dL_law_32 (by right; rw [fw_rng (by omega)]; omega) (by decide) ?_
      exact next w H locs hR h26 Z
