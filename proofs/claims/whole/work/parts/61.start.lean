/-! the law, from its entry -/
theorem WC.grow {w w' : fw_S} {n : Nat} {D : Nat → Nat → Int} {num : Nat → Int} (h : WC w n D num) (hg : ∀ k e, k < 18 → fw_g w k e → fw_g w' k e) : WC w' n D num := by
  obtain ⟨a0, ⟨a1, ⟨f, a2, a2'⟩, hn⟩, ⟨⟨fc, br, a3⟩, f4, a4⟩, ⟨a5, f6, a6⟩, ⟨a7, ⟨x, a8⟩, ⟨f9, a9⟩, ⟨fc2, br2, a10⟩, ⟨f11, a11⟩, ⟨f12, a12⟩⟩, ⟨⟨A, B, bo, ba, bb, a13⟩, f14, a14⟩, a15, a16, a17⟩ := h
  exact ⟨hg _ _ (by decide) a0, ⟨hg _ _ (by decide) a1, ⟨f, hg _ _ (by decide) a2, a2'⟩, hn⟩, ⟨⟨fc, br, hg _ _ (by decide) a3⟩, f4, hg _ _ (by decide) a4⟩, ⟨hg _ _ (by decide) a5, f6, hg _ _ (by decide) a6⟩, ⟨hg _ _ (by decide) a7, ⟨x, hg _ _ (by decide) a8⟩, ⟨f9, hg _ _ (by decide) a9⟩, ⟨fc2, br2, hg _ _ (by decide) a10⟩, ⟨f11, hg _ _ (by decide) a11⟩, ⟨f12, hg _ _ (by decide) a12⟩⟩, ⟨⟨A, B, bo, ba, bb, hg _ _ (by decide) a13⟩, f14, hg _ _ (by decide) a14⟩, hg _ _ (by decide) a15, hg _ _ (by decide) a16, hg _ _ (by decide) a17⟩
set_option maxHeartbeats 4000000 in
set_option maxRecDepth 20000 in
/-- THE LAW, from its entry -/
theorem whole_start {p : Program} {e : Env} {s : State} {m : MethodId} {below : List Frame} {meth : Method} {c : Code} (l : Launch) (hflags : l.flags = flags0) {b L : Nat} {xs : Nat → Int32} (hL : L ≤ 2048) (C0 : lw_At p s m meth c b L xs) : W p l e room_1 s m #[Value.ref b] below meth c s.heap [] 0 0 (lw_Z below #[Value.ref b] s) (entryFrame m ([Value.ref b] : List Value).toArray 4) := by
  obtain ⟨hx, hb, hr, hml, hown, hts, hX, hbl, hlocks, hgv⟩ := C0
  have hok : ∀ w ∈ okW, w.before #[Value.ref b] s = true := fun w hw => hts w (List.mem_filter.mp hw).1
  have hnest : ∀ x ∈ fw_nest, va_Nw x s := fun x hx => va_Nw.of (fw_nest_tabs hx) (hts x (List.mem_filter.mp hx).1)
  obtain ⟨c0, i0, K0⟩ := u_known (C := RX0) (T := TX0) (N := 1) (n := 1) hok inX0 (hok _ (okm (i := 167) rfl rfl))
  obtain ⟨c1, i1, K1⟩ := u_known (C := RX1) (T := TX1) (N := 4) (n := 4) hok inX1 (hok _ (okm (i := 77) rfl rfl))
  obtain ⟨c2, i2, K2⟩ := u_known (C := RX2) (T := TX2) (N := 7) (n := 7) hok inX2 (hok _ (okm (i := 138) rfl rfl))
  obtain ⟨c3, i3, K3⟩ := u_known (C := RX3) (T := TX3) (N := 2) (n := 2) hok inX3 (hok _ (okm (i := 99) rfl rfl))
  obtain ⟨c4, i4, K4⟩ := u_known (C := RX4) (T := TX4) (N := 4) (n := 4) hok inX4 (hok _ (okm (i := 113) rfl rfl))
  obtain ⟨c5, i5, K5⟩ := u_known (C := RX5) (T := TX5) (N := 1) (n := 1) hok inX5 (hok _ (okm (i := 177) rfl rfl))
  obtain ⟨c6, i6, K6⟩ := u_known (C := RX6) (T := TX6) (N := 2) (n := 2) hok inX6 (hok _ (okm (i := 53) rfl rfl))
  obtain ⟨c7, i7, K7⟩ := u_known (C := RX7) (T := TX7) (N := 7) (n := 7) hok inX7 (hok _ (okm (i := 45) rfl rfl))
  obtain ⟨c8, i8, K8⟩ := u_known (C := RX8) (T := TX8) (N := 10) (n := 10) hok inX8 (hok _ (okm (i := 503) rfl rfl))
  obtain ⟨dC, dI, hKc⟩ : ∃ (dC : Nat → ClassId) (dI : Nat → Nat → Nat), ∀ (k : Nat) (q : vw_C), vwCl[k]? = some q → u_Kn s q.1 q.2.1 q.2.2 (dC k) (dI k) := by
    refine ⟨fun k => if k = 0 then c0 else if k = 1 then c1 else if k = 2 then c2 else if k = 3 then c3 else if k = 4 then c4 else if k = 5 then c5 else if k = 6 then c6 else if k = 7 then c7 else c8, fun k => if k = 0 then i0 else if k = 1 then i1 else if k = 2 then i2 else if k = 3 then i3 else if k = 4 then i4 else if k = 5 then i5 else if k = 6 then i6 else if k = 7 then i7 else i8, ?_⟩
    intro k q hq
    match k, hq with
    | 0, hq => cases hq; exact K0
    | 1, hq => cases hq; exact K1
    | 2, hq => cases hq; exact K2
    | 3, hq => cases hq; exact K3
    | 4, hq => cases hq; exact K4
    | 5, hq => cases hq; exact K5
    | 6, hq => cases hq; exact K6
    | 7, hq => cases hq; exact K7
    | 8, hq => cases hq; exact K8
    | k + 9, hq => simp [vwCl] at hq
  obtain ⟨cI, kI, cmI, fI, hkI, hqI⟩ := Cond.arrayClass_spec (hok _ (okm (i := 75) rfl rfl))
  obtain ⟨cJ, kJ, cmJ, fJ, hkJ, hqJ⟩ := Cond.arrayClass_spec (hok _ (okm (i := 111) rfl rfl))
  obtain ⟨g0, eg⟩ : ∃ g : fw_G, g = ((dC, dI), (fun _ => 0), cI, cJ) := ⟨_, rfl⟩
  have hK : va_K g0.1 vwCl (fw_ty g0) s := by
    subst eg
    refine ⟨hKc, fun k q hq => ?_⟩
    match k, hq with
    | 0, hq => cases hq; exact ⟨fun n z => ⟨fun k h => (by cases h), kI, hkI, cmI, hqI⟩, fI⟩
    | 1, hq => cases hq; exact ⟨fun n z => ⟨fun k h => (by cases h), kJ, hkJ, cmJ, hqJ⟩, fJ⟩
    | k + 2, hq => simp [fw_ty] at hq
  have C : fa_C mL_law 20 600000 7302250 p room_1 s m #[Value.ref b] meth c g0 := ⟨hx, hb, hr, hml, hown, hok, hnest, hlocks, hK, by decide, by decide, by decide, by decide⟩
  have hbA : ¬ fw_A g0 0 s.heap.size b := by
    rintro (⟨j, hj, _⟩ | h)
    · exact absurd hj (Nat.not_lt_zero _)
    · exact absurd hbl (Nat.not_lt.mpr h)
  have Z : fa_Z g0 0 s (fw_ad g0) ((0, fun _ => .inr (0, .inl (fun _ => 0))) : fw_S) s.heap [] := ⟨⟨fun k hk => absurd hk (Nat.not_lt_zero _), fun k _ hk => absurd hk (Nat.not_lt_zero _), Nat.le_refl _⟩, fun i j hi => absurd hi (Nat.not_lt_zero _), fun k q hq => by simp [fw_w] at hq, va_S.rf, fun k hk => absurd hk (Nat.not_lt_zero _)⟩
  have hl := lv_entry ([.ref b]) (n := 4) (Nat.le_of_ble_eq_true rfl)
  rw [lg_entry_eq]
  generalize (lg_sl ([.ref b]) ++ List.replicate (4 - (lg_sl ([.ref b])).length) Slot.unset).toArray = ls at hl ⊢
  have hl : lv_has ls 4 [(0, .ref b)] := hl
  refine fx_new C Z (ci := 7) (fs := [.null, .null, .null, .null, .null, .null, .null]) dL_law_0 rfl inX7 tyX7 tyX7_ok (okm (i := 44) rfl rfl) (okm (i := 45) rfl rfl) (okm (i := 33) rfl rfl) (fun j hj => by rcases (show j = 0 ∨ j = 1 ∨ j = 2 ∨ j = 3 ∨ j = 4 ∨ j = 5 ∨ j = 6 by omega) with rfl | rfl | rfl | rfl | rfl | rfl | rfl <;> rfl) (fun _ => rfl) (by decide) (by decide) (fun ad q0 H ha hq Z => ?_)
  obtain ⟨w1, ew1⟩ : ∃ x, x = fw_push ((0, fun _ => .inr (0, .inl (fun _ => 0))) : fw_S) (.inl (7, [.null, .null, .null, .null, .null, .null, .null])) := ⟨_, rfl⟩
  rw [← ew1] at Z
  have g1 : fw_g w1 0 (.inl (7, [.null, .null, .null, .null, .null, .null, .null])) := by rw [ew1]; exact fw_g.new
  have n1 : w1.1 = 1 := by rw [ew1]; rfl
  have e0 : ad 0 = q0 := hq
  refine lv_dup hx hb dL_law_3 rfl ?_
  obtain ⟨w2, K2, x2, c2, f2⟩ := c_X7_init g1 n1 Z.2.2.2.2
  have n2 : w2.1 = 18 := by have := x2.1; omega
  refine fx_callI C Z (As' := []) iL_law_4 K2 (by omega) (by decide) rfl rfl e0 rfl (Nat.le_of_ble_eq_true rfl) hl.1 (by decide) (by decide) f2 (fun ad H locs ha Z => ?_)
  have e0 := (ha 0 (by omega)).trans e0
  refine lv_astore_n (lv' := [(1, .ref q0), (0, .ref b)]) hx hb dL_law_7 rfl hl (by decide) rfl (fun ls hl => ?_)
  refine fx_new C Z (ci := 8) (fs := [.int 0, .null, .null, .null, .null, .null, .null, .null, .int 0, .int 0]) dL_law_8 rfl inX8 tyX8 tyX8_ok (okm (i := 502) rfl rfl) (okm (i := 503) rfl rfl) (okm (i := 41) rfl rfl) (fun j hj => by rcases (show j = 0 ∨ j = 1 ∨ j = 2 ∨ j = 3 ∨ j = 4 ∨ j = 5 ∨ j = 6 ∨ j = 7 ∨ j = 8 ∨ j = 9 by omega) with rfl | rfl | rfl | rfl | rfl | rfl | rfl | rfl | rfl | rfl <;> rfl) (fun _ => rfl) (by decide) (by decide) (fun ad q18 H ha hq Z => ?_)
  obtain ⟨w3, ew3⟩ : ∃ x, x = fw_push w2 (.inl (8, [.int 0, .null, .null, .null, .null, .null, .null, .null, .int 0, .int 0])) := ⟨_, rfl⟩
  rw [← ew3] at Z
  have g3 : fw_g w3 18 (.inl (8, [.int 0, .null, .null, .null, .null, .null, .null, .null, .int 0, .int 0])) := by rw [ew3, ← n2]; exact fw_g.new
  have n3 : w3.1 = 19 := by rw [ew3]; show w2.1 + 1 = _; omega
  have e18 : ad 18 = q18 := by rw [n2] at hq; exact hq
  have e0 := (ha 0 (by omega)).trans e0
  refine lv_dup hx hb dL_law_11 rfl ?_
  obtain ⟨w4, K4, x4, m4, f4⟩ := c_X8_init g3 n3 Z.2.2.2.2
  have n4 : w4.1 = 26 := by have := x4.1; omega
  refine fx_callI C Z (As' := []) iL_law_12 K4 (by omega) (by decide) rfl rfl e18 rfl (Nat.le_of_ble_eq_true rfl) hl.1 (by decide) (by decide) f4 (fun ad H locs ha Z => ?_)
  have e0 := (ha 0 (by omega)).trans e0
  have e18 := (ha 18 (by omega)).trans e18
  refine lv_astore_n (lv' := [(2, .ref q18), (1, .ref q0), (0, .ref b)]) hx hb dL_law_15 rfl hl (by decide) rfl (fun ls hl => ?_)
  refine lv_iconst (v := iI ((0 : Nat) : Int)) hx hb dL_law_16 (by decide) ?_
  refine lv_istore_n (lv' := [(3, .int (iI ((0 : Nat) : Int))), (2, .ref q18), (1, .ref q0), (0, .ref b)]) hx hb dL_law_17 rfl hl (by decide) rfl (fun ls hl => ?_)
  refine W.widen (k := 600000) (n := 7302250) (by decide) (by decide) ?_
  have c4 : WC w4 2 D1 (fun _ => 0) := c2.grow (fun k e hk hg => x4.g (by omega) (by rw [ew3]; exact fw_g.push hg))
  exact law_loop hL hx hb hr hlocks hX hbl C hbA q0 q18 (L + 4) 0 (by omega) (by omega) w4 ad H locs ls ⟨2, D1, fun _ => 0, okT.d1 2, (fun _ _ => ⟨by show (-1000 : Int) ≤ 0; decide, by show (0 : Int) ≤ 1000; decide⟩), c4, m4⟩ n4 e0 e18 Z (lv_sub hl [3, 2, 1, 0] rfl)
