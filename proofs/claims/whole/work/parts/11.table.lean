/-! the Table's writes, and its looks at cuts -/
def kp (w w' : fw_S) (X : Nat → Prop) : Prop := w'.1 = w.1 ∧ ∀ k, ¬ X k → w'.2 k = w.2 k
theorem kp.g {w w' : fw_S} {X : Nat → Prop} (h : kp w w' X) {k : Nat} {e : fw_E} (hk : ¬ X k) (hg : fw_g w k e) : fw_g w' k e := ⟨by rw [h.1]; exact hg.1, (h.2 k hk).trans hg.2⟩
theorem kp.rf {w : fw_S} {X : Nat → Prop} : kp w w X := ⟨rfl, fun _ _ => rfl⟩
theorem kp.trans {w w1 w2 : fw_S} {X : Nat → Prop} (h : kp w w1 X) (h2 : kp w1 w2 X) : kp w w2 X := ⟨h2.1.trans h.1, fun k hk => (h2.2 k hk).trans (h.2 k hk)⟩
theorem kp.mono {w w' : fw_S} {X Y : Nat → Prop} (h : kp w w' X) (hXY : ∀ k, X k → Y k) : kp w w' Y := ⟨h.1, fun k hk => h.2 k (fun q => hk (hXY k q))⟩
theorem kp.up (w : fw_S) (k : Nat) (e : fw_E) : kp w (fw_up w k e) (fun j => j = k) := ⟨rfl, fun _ hj => fw_up_ne w e hj⟩
theorem lpE {σ : Type} {M : fw_M} {d pcH : Nat} (n : Nat) (L : Nat → σ → List (Option Value)) (I : Nat → σ → fw_S → Prop)
    (hstep : ∀ (j : Nat) (x : σ) (w : fw_S), j < n → I j x w → ∃ (x1 : σ) (w1 : fw_S), I (j + 1) x1 w1 ∧ ∀ (r : Option Value) (w' : fw_S), fw_R M d pcH (L (j + 1) x1) [] w1 r w' → fw_R M d pcH (L j x) [] w r w') :
    ∀ (j : Nat) (x : σ) (w : fw_S), j ≤ n → I j x w → ∃ (xE : σ) (wE : fw_S), I n xE wE ∧ ∀ (r : Option Value) (w' : fw_S), fw_R M d pcH (L n xE) [] wE r w' → fw_R M d pcH (L j x) [] w r w' := by
  intro j x w hj hI
  obtain ⟨k, rfl⟩ : ∃ k, n = j + k := ⟨n - j, by omega⟩
  clear hj
  induction k generalizing j x w with
  | zero => exact ⟨x, w, hI, fun _ _ h => h⟩
  | succ k ih =>
    obtain ⟨x1, w1, h1, h2⟩ := hstep j x w (by omega) hI
    rw [show j + (k + 1) = j + 1 + k by omega] at hstep ⊢
    obtain ⟨xE, wE, h3, h4⟩ := ih (j + 1) x1 w1 h1 hstep
    exact ⟨xE, wE, h3, fun r w' h => h2 r w' (h4 r w' h)⟩
theorem tb.kp {w w' : fw_S} {X : Nat → Prop} {o a n : Nat} {D : Nat → Nat → Int} (h : tb w o a n D) (hk : kp w w' X) (ho : ¬ X o) (ha : ¬ X a) : tb w' o a n D := by
  obtain ⟨h1, ⟨f, h2, h3⟩, h4⟩ := h
  exact ⟨hk.g ho h1, ⟨f, hk.g ha h2, h3⟩, h4⟩
theorem tb.ne {w : fw_S} {o a n : Nat} {D : Nat → Nat → Int} (h : tb w o a n D) : o ≠ a := by
  obtain ⟨h1, ⟨f, h2, h3⟩, h4⟩ := h
  exact h1.oa h2
theorem tb.congr {w : fw_S} {o a n : Nat} {D D' : Nat → Nat → Int} (h : tb w o a n D) (hD : ∀ i j, i < n → j < n → D i j = D' i j) : tb w o a n D' := by
  obtain ⟨h1, ⟨f, h2, h3⟩, h4⟩ := h
  exact ⟨h1, ⟨f, h2, fun i j hi hj => (h3 i j hi hj).trans (hD i j hi hj)⟩, h4⟩
def D1 : Nat → Nat → Int := fun i j => if i = j then 0 else 1
/-- a new table, all of whose distances are 1 -/
theorem c_reset {d o a n : Nat} {x : Int32} {f0 : Nat → Int} {w : fw_S} (h1 : fw_g w o (.inl (6, [.ref a, .int x]))) (h2 : fw_g w a (.inr (36, .inl f0))) (hn : 2 ≤ n ∧ n ≤ 6) : ∃ w', fw_K d mX6_reset [.ref o, .int (iI n)] w none w' ∧ tb w' o a n D1 ∧ kp w w' (fun k => k = o ∨ k = a) := by
  have hoa := h1.oa h2
  have outer := lpE (M := mX6_reset) (d := d) (pcH := 7) n (fun i _ => [some (.ref o), some (.int (iI n)), some (.int (iI i)), none]) (fun i (_ : Unit) v => fw_g v o (.inl (6, [.ref a, .int (iI n)])) ∧ (∃ f, fw_g v a (.inr (36, .inl f)) ∧ ∀ p q, p < i → q < n → f (6 * p + q) = D1 p q) ∧ kp w v (fun k => k = o ∨ k = a)) (by
    intro i _ v hi ⟨g1, ⟨f, g2, g3⟩, g4⟩
    have inner := lpE (M := mX6_reset) (d := d) (pcH := 14) n (fun j _ => [some (.ref o), some (.int (iI n)), some (.int (iI i)), some (.int (iI j))]) (fun j (_ : Unit) v => fw_g v o (.inl (6, [.ref a, .int (iI n)])) ∧ (∃ f, fw_g v a (.inr (36, .inl f)) ∧ ∀ p q, (p < i ∧ q < n ∨ p = i ∧ q < j) → f (6 * p + q) = D1 p q) ∧ kp w v (fun k => k = o ∨ k = a)) (by
      intro j _ v hj ⟨g1, ⟨f, g2, g3⟩, g4⟩
      refine ⟨(), fw_up v a (.inr (36, .inl (fw_u f (6 * i + j) (D1 i j)))), ⟨g1.ne _ hoa, ⟨_, g2.up _, ?_⟩, g4.trans ((kp.up v a _).mono (fun k hk => Or.inr hk))⟩, ?_⟩
      · intro p q hpq
        by_cases he : 6 * p + q = 6 * i + j
        · rw [he, fw_u_self]; have : p = i ∧ q = j := by omega
          rw [this.1, this.2]
        · rw [fw_u_ne _ _ he]; exact g3 p q (by omega)
      · intro r w' k
        refine fr_iload_n dX6_reset_14 rfl ?_
        refine fr_iload_n dX6_reset_15 rfl ?_
        refine fr_icmp_ge (tgt := 46) dX6_reset_16 (by decide) (by omega) (by omega) (fun c => ?_) (fun c => ?_)
        · omega
        refine fr_aload_n dX6_reset_19 rfl ?_
        refine fr_get fX6_reset_20 g1 rfl ?_
        refine fr_iload_n dX6_reset_23 rfl ?_
        refine fr_bipush dX6_reset_24 (by decide) ?_
        refine fr_imul dX6_reset_26 ?_
        refine fr_iload_n dX6_reset_27 rfl ?_
        refine fr_iadd dX6_reset_28 ?_
        refine fr_iload_n dX6_reset_29 rfl ?_
        refine fr_iload_n dX6_reset_30 rfl ?_
        refine fr_icmp_ne (tgt := 38) dX6_reset_31 (by decide) (by omega) (by omega) (fun c2 => ?_) (fun c2 => ?_)
        · refine fr_iconst dX6_reset_38 ?_
          rw [show (1 : Int) = D1 i j by unfold D1; rw [if_neg (by omega)]]
          refine fr_iast (6 * i + j) dX6_reset_39 g2 (by omega) (by omega) (by decide) ?_
          refine fr_iinc dX6_reset_40 rfl (by decide) rfl rfl ?_
          dsimp only [List.set, Option.toList, List.cons_append, List.nil_append]
          refine fr_goto (tgt := 14) dX6_reset_43 (by decide) ?_
          exact k
        · refine fr_iconst dX6_reset_34 ?_
          refine fr_goto (tgt := 39) dX6_reset_35 (by decide) ?_
          rw [show (0 : Int) = D1 i j by unfold D1; rw [if_pos (by omega)]]
          refine fr_iast (6 * i + j) dX6_reset_39 g2 (by omega) (by omega) (by decide) ?_
          refine fr_iinc dX6_reset_40 rfl (by decide) rfl rfl ?_
          dsimp only [List.set, Option.toList, List.cons_append, List.nil_append]
          refine fr_goto (tgt := 14) dX6_reset_43 (by decide) ?_
          exact k)
    obtain ⟨_, wE, hE, hr⟩ := inner 0 () v (Nat.zero_le _) ⟨g1, ⟨f, g2, fun p q hpq => g3 p q (by omega) (by omega)⟩, g4⟩
    obtain ⟨e1, ⟨fE, e2, e3⟩, e4⟩ := hE
    refine ⟨(), wE, ⟨e1, ⟨fE, e2, fun p q hp hq => e3 p q (by omega)⟩, e4⟩, ?_⟩
    intro r w' k
    refine fr_iload_n dX6_reset_7 rfl ?_
    refine fr_iload_n dX6_reset_8 rfl ?_
    refine fr_icmp_ge (tgt := 52) dX6_reset_9 (by decide) (by omega) (by omega) (fun c => ?_) (fun c => ?_)
    · omega
    refine fr_iconst dX6_reset_12 ?_
    refine fr_istore_n dX6_reset_13 rfl (by decide) rfl rfl ?_
    dsimp only [List.set, Option.toList, List.cons_append, List.nil_append]
    refine hr r w' ?_
    refine fr_iload_n dX6_reset_14 rfl ?_
    refine fr_iload_n dX6_reset_15 rfl ?_
    refine fr_icmp_ge (tgt := 46) dX6_reset_16 (by decide) (by omega) (by omega) (fun c => ?_) (fun c => ?_)
    · refine fr_iinc dX6_reset_46 rfl (by decide) rfl rfl ?_
      dsimp only [List.set, Option.toList, List.cons_append, List.nil_append]
      refine fr_goto (tgt := 7) dX6_reset_49 (by decide) ?_
      exact k.wk (by simp [fw_le])
    · omega)
  obtain ⟨_, wE, ⟨e1, ⟨fE, e2, e3⟩, e4⟩, hr⟩ := outer 0 () (fw_up w o (.inl (6, [.ref a, .int (iI n)]))) (Nat.zero_le _) ⟨h1.up _, ⟨f0, h2.ne _ (Ne.symm hoa), fun p q hp => absurd hp (Nat.not_lt_zero p)⟩, (kp.up w o _).mono (fun k hk => Or.inl hk)⟩
  refine ⟨wE, ?_, ⟨e1, ⟨fE, e2, fun i j hi hj => e3 i j hi hj⟩, hn⟩, e4⟩
  refine fw_K.of (by decide) (Nat.le_of_ble_eq_true rfl) (by simp [Value.category]) (e4.1) ?_
  show fw_R _ _ 0 [some (.ref o), some (.int (iI n)), none, none] [] _ _ _
  refine fr_aload_n dX6_reset_0 rfl ?_
  refine fr_iload_n dX6_reset_1 rfl ?_
  refine fr_put fX6_reset_2 pfX6_1 h1 (by simp) rfl ?_
  dsimp only [List.set, Option.toList, List.cons_append, List.nil_append]
  refine fr_iconst dX6_reset_5 ?_
  refine fr_istore_n dX6_reset_6 rfl (by decide) rfl rfl ?_
  dsimp only [List.set, Option.toList, List.cons_append, List.nil_append]
  refine hr _ _ ?_
  refine fr_iload_n dX6_reset_7 rfl ?_
  refine fr_iload_n dX6_reset_8 rfl ?_
  refine fr_icmp_ge (tgt := 52) dX6_reset_9 (by decide) (by omega) (by omega) (fun c => ?_) (fun c => ?_)
  · exact fr_vret dX6_reset_52 rfl rfl (rfl)
  · omega
def setD (D : Nat → Nat → Int) (i j : Nat) (v : Int) : Nat → Nat → Int := fun x y => if (x = i ∧ y = j) ∨ (x = j ∧ y = i) then v else D x y
theorem c_put {d o a n : Nat} {D : Nat → Nat → Int} {w : fw_S} (h : tb w o a n D) {i j : Nat} (hi : i < n) (hj : j < n) (v : Int) : ∃ w', fw_K d mX6_put [.ref o, .int (iI i), .int (iI j), .int (iI v)] w none w' ∧ tb w' o a n (setD D i j v) ∧ kp w w' (fun k => k = a) := by
  have hoa := h.ne
  obtain ⟨h1, ⟨f, h2, h3⟩, h4, h5⟩ := h
  refine ⟨fw_up (fw_up w a (.inr (36, .inl (fw_u f (6 * i + j) v)))) a (.inr (36, .inl (fw_u (fw_u f (6 * i + j) v) (6 * j + i) v))), ?_, ⟨(h1.ne _ hoa).ne _ hoa, ⟨_, (h2.up _).up _, ?_⟩, h4, h5⟩, (kp.up _ _ _).trans (kp.up _ _ _)⟩
  · refine fw_K.of (by decide) (Nat.le_of_ble_eq_true rfl) (by simp [Value.category]) (rfl) ?_
    show fw_R _ _ 0 [some (.ref o), some (.int (iI i)), some (.int (iI j)), some (.int (iI v))] [] _ _ _
    refine fr_aload_n dX6_put_0 rfl ?_
    refine fr_get fX6_put_1 h1 rfl ?_
    refine fr_iload_n dX6_put_4 rfl ?_
    refine fr_bipush dX6_put_5 (by decide) ?_
    refine fr_imul dX6_put_7 ?_
    refine fr_iload_n dX6_put_8 rfl ?_
    refine fr_iadd dX6_put_9 ?_
    refine fr_iload_n dX6_put_10 rfl ?_
    refine fr_iast (6 * i + j) dX6_put_11 h2 (by omega) (by omega) (by decide) ?_
    refine fr_aload_n dX6_put_12 rfl ?_
    refine fr_get fX6_put_13 (h1.ne _ hoa) rfl ?_
    refine fr_iload_n dX6_put_16 rfl ?_
    refine fr_bipush dX6_put_17 (by decide) ?_
    refine fr_imul dX6_put_19 ?_
    refine fr_iload_n dX6_put_20 rfl ?_
    refine fr_iadd dX6_put_21 ?_
    refine fr_iload_n dX6_put_22 rfl ?_
    refine fr_iast (6 * j + i) dX6_put_23 (h2.up _) (by omega) (by omega) (by decide) ?_
    exact fr_vret dX6_put_24 rfl rfl (rfl)
  · intro p q hp hq
    unfold setD
    by_cases e1 : 6 * p + q = 6 * j + i
    · rw [e1, fw_u_self, if_pos (by omega)]
    · rw [fw_u_ne _ _ e1]
      by_cases e2 : 6 * p + q = 6 * i + j
      · rw [e2, fw_u_self, if_pos (by omega)]
      · rw [fw_u_ne _ _ e2, if_neg (by omega)]; exact h3 p q hp hq
