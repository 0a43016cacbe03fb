/-! calls that make cells: the store grows at its end -/
def fw_cb (N : Nat) : fw_E → Prop
  | .inl o => ∀ v ∈ o.2, ∀ r, v = Value.ref r → r < N
  | .inr _ => True
def fw_wf (w : fw_S) : Prop := ∀ k, k < w.1 → fw_cb w.1 (w.2 k)
def fw_push (w : fw_S) (e : fw_E) : fw_S := (w.1 + 1, fun k => if k = w.1 then e else w.2 k)
theorem fw_cb.mono {N N' : Nat} {e : fw_E} (h : fw_cb N e) (hN : N ≤ N') : fw_cb N' e := by
  cases e with
  | inl o => exact fun v hv r hr => Nat.lt_of_lt_of_le (h v hv r hr) hN
  | inr _ => exact trivial
theorem fw_cb_e {N : Nat} {ad ad' : Nat → Nat} {cI cJ : ClassId} {e : fw_E} (h : fw_cb N e) (ha : ∀ k, k < N → ad' k = ad k) : fw_e ad' cI cJ e = fw_e ad cI cJ e := by
  cases e with
  | inl o =>
    show Sum.inr (o.1, o.2.map (fw_v ad')) = Sum.inr (o.1, o.2.map (fw_v ad))
    congr 2
    refine List.map_congr_left (fun v hv => ?_)
    cases v with
    | ref r => show Value.ref _ = Value.ref _; rw [ha r (h _ hv r rfl)]
    | _ => rfl
  | inr q => obtain ⟨n, f⟩ := q; cases f <;> rfl
theorem fw_w_push {D : va_G} {c : ClassId × ClassId} {ad ad' : Nat → Nat} {w : fw_S} {e : fw_E} (hw : fw_wf w) (ha : ∀ k, k < w.1 → ad' k = ad k) : fw_w (D, ad', c) (fw_push w e) = fw_w (D, ad, c) w ++ [(ad' w.1, fw_e ad' c.1 c.2 e)] := by
  unfold fw_w
  show (List.range (w.1 + 1)).map _ = _
  rw [List.range_succ, List.map_append]
  congr 1
  · refine List.map_congr_left (fun k hk => ?_)
    have hk' := List.mem_range.mp hk
    show (ad' k, fw_e ad' c.1 c.2 ((fw_push w e).2 k)) = (ad k, fw_e ad c.1 c.2 (w.2 k))
    rw [ha k hk', show (fw_push w e).2 k = w.2 k from if_neg (by omega), fw_cb_e (hw k hk') ha]
  · show [(ad' w.1, fw_e ad' c.1 c.2 ((fw_push w e).2 w.1))] = _
    rw [show (fw_push w e).2 w.1 = e from if_pos rfl]
theorem fw_w_ad {D : va_G} {c : ClassId × ClassId} {ad ad' : Nat → Nat} {w : fw_S} (hw : fw_wf w) (ha : ∀ k, k < w.1 → ad' k = ad k) : fw_w (D, ad', c) w = fw_w (D, ad, c) w := by
  unfold fw_w
  refine List.map_congr_left (fun k hk => ?_)
  have hk' := List.mem_range.mp hk
  show (ad' k, fw_e ad' c.1 c.2 (w.2 k)) = (ad k, fw_e ad c.1 c.2 (w.2 k))
  rw [ha k hk', fw_cb_e (hw k hk') ha]
theorem fw_wf.push {w : fw_S} {e : fw_E} (h : fw_wf w) (he : fw_cb (w.1 + 1) e) : fw_wf (fw_push w e) := by
  intro k hk
  have hk : k < w.1 + 1 := hk
  show fw_cb (w.1 + 1) (if k = w.1 then e else w.2 k)
  by_cases q : k = w.1
  · rw [if_pos q]; exact he
  · rw [if_neg q]; exact (h k (by omega)).mono (Nat.le_succ _)
theorem fw_wf.kp {w w' : fw_S} {X : Nat → Prop} (h : fw_wf w) (hk : kp w w' X) (hX : ∀ k, X k → k < w.1 → fw_cb w.1 (w'.2 k)) : fw_wf w' := by
  intro k hk2
  rw [hk.1] at hk2 ⊢
  by_cases q : X k
  · exact hX k q hk2
  · rw [hk.2 k q]; exact h k hk2
theorem fw_g.push {w : fw_S} {k : Nat} {e e' : fw_E} (h : fw_g w k e) : fw_g (fw_push w e') k e := ⟨Nat.lt_succ_of_lt h.1, (if_neg (Nat.ne_of_lt h.1)).trans h.2⟩
theorem fw_g.new {w : fw_S} {e : fw_E} : fw_g (fw_push w e) w.1 e := ⟨Nat.lt_succ_self _, if_pos rfl⟩
/-- grown by n cells, of the old ones only those in X changed -/
def kx (w w' : fw_S) (n : Nat) (X : Nat → Prop) : Prop := w'.1 = w.1 + n ∧ ∀ k, k < w.1 → ¬ X k → w'.2 k = w.2 k
theorem kx.g {w w' : fw_S} {n : Nat} {X : Nat → Prop} (h : kx w w' n X) {k : Nat} {e : fw_E} (hk : ¬ X k) (hg : fw_g w k e) : fw_g w' k e := ⟨by rw [h.1]; exact Nat.lt_of_lt_of_le hg.1 (Nat.le_add_right _ _), (h.2 k hg.1 hk).trans hg.2⟩
def fa_rm (d mc ms : Nat) : Room := { frames := d, cells := mc, slots := ms, locals := 64 * d }
def fa_C (M : fw_M) (d mc ms : Nat) (p : Program) (R : Room) (s : State) (m : MethodId) (args : Array Value) (meth : Method) (c : Code) (g0 : fw_G) : Prop :=
  p.tables.exec = Jvm.exec ∧ c.code = M.2.1 ∧ meth.sig.returnType = M.2.2.2 ∧ c.maxLocals = M.2.2.1 ∧ s.vm.findClass M.1.cls = some m.cls ∧ (∀ w ∈ okW, w.before args s = true) ∧ (∀ w ∈ fw_nest, va_Nw w s) ∧ meth.locks = false ∧ va_K g0.1 vwCl (fw_ty g0) s ∧ d ≤ R.frames ∧ 64 * d ≤ R.locals ∧ mc ≤ R.cells ∧ ms ≤ R.slots
def fa_g (g0 : fw_G) (ad : Nat → Nat) : fw_G := (g0.1, ad, g0.2.2)
def fa_X (g0 : fw_G) (N0 sz : Nat) (ad : Nat → Nat) (N : Nat) : Prop := (∀ k, k < N0 → ad k = fw_ad g0 k) ∧ (∀ k, N0 ≤ k → k < N → sz ≤ ad k) ∧ N0 ≤ N
def fa_Z (g0 : fw_G) (N0 : Nat) (s : State) (ad : Nat → Nat) (w : fw_S) (H : Heap) (locs : List Loc) : Prop := fa_X g0 N0 s.heap.size ad w.1 ∧ fw_ok (fa_g g0 ad) w.1 ∧ fw_H (fa_g g0 ad) w H ∧ va_S (fw_A g0 N0 s.heap.size) s.heap H locs ∧ fw_wf w
def fa_Q (g0 : fw_G) (N0 : Nat) (w' : fw_S) (sz : Nat) : Array Value → State → Outcome → State → Prop := fun _ st oc t => oc = .returned none ∧ (∃ ad, fa_X g0 N0 sz ad w'.1 ∧ fw_ok (fa_g g0 ad) w'.1 ∧ fw_H (fa_g g0 ad) w' t.heap) ∧ va_F (fw_A g0 N0 sz) st t
/-- the contract of a constructor: it makes mc cells with ms slots -/
def fa_K (d mc ms : Nat) (M : fw_M) (a : List Value) (w : fw_S) (w' : fw_S) : Prop := ∀ (l : Launch) (g : fw_G) (sz : Nat), fw_ok g w.1 → Met l M.1 (fw_ws M) (fa_rm d mc ms) (va_Pc (a.map (fw_v (fw_ad g))) (fw_B g w sz)) (fa_Q g w.1 w' sz) mc ms (fw_A g w.1 sz)
section FX
variable {M : fw_M} {d mc ms : Nat} {p : Program} {l : Launch} {e : Env} {R : Room} {s : State} {m : MethodId} {args : Array Value} {below : List Frame} {meth : Method} {c : Code} {H : Heap} {locs : List Loc} {cells slots : Nat} {Q : State → Prop} {g0 : fw_G} {N0 : Nat} {ad : Nat → Nat} {w : fw_S} {pc : Nat} {ls : Array Slot} {rest : List Value}
theorem fa_Z.D (Z : fa_Z g0 N0 s ad w H locs) : va_D (fw_A g0 N0 s.heap.size) (fw_w (fa_g g0 ad) w) := by
  have h := fw_D (g := fa_g g0 ad) (w := w) (sz := s.heap.size) Z.2.1
  refine ⟨h.1, fun k q hk => ?_⟩
  rcases h.2 k q hk with ⟨j, hj, e⟩ | h2
  · rcases Nat.lt_or_ge j N0 with h3 | h3
    · exact Or.inl ⟨j, h3, e.trans (Z.1.1 j h3)⟩
    · exact Or.inr (e ▸ Z.1.2.1 j h3 hj)
  · exact Or.inr h2
theorem fa_Z.grow {eN : fw_E} {q : Nat} {H1 : Heap} (Z : fa_Z g0 N0 s ad w H locs) (hb : fw_cb (w.1 + 1) eN) (hP : va_P g0.1 vwCl (fw_w (fa_g g0 ad) w ++ [(q, fw_e (fun k => if k = w.1 then q else ad k) g0.2.2.1 g0.2.2.2 eN)]) H1) (hD : va_D (fw_A g0 N0 s.heap.size) (fw_w (fa_g g0 ad) w ++ [(q, fw_e (fun k => if k = w.1 then q else ad k) g0.2.2.1 g0.2.2.2 eN)])) (hS : va_S (fw_A g0 N0 s.heap.size) s.heap H1 locs) : fa_Z g0 N0 s (fun k => if k = w.1 then q else ad k) (fw_push w eN) H1 locs := by
  have hlen : (fw_w (fa_g g0 ad) w).length = w.1 := by simp [fw_w]
  have hnew : (fw_w (fa_g g0 ad) w ++ [(q, fw_e (fun k => if k = w.1 then q else ad k) g0.2.2.1 g0.2.2.2 eN)])[w.1]? = some (q, fw_e (fun k => if k = w.1 then q else ad k) g0.2.2.1 g0.2.2.2 eN) := by
    rw [List.getElem?_append_right (by omega), hlen, Nat.sub_self]; rfl
  have hold : ∀ k, k < w.1 → (fw_w (fa_g g0 ad) w ++ [(q, fw_e (fun k => if k = w.1 then q else ad k) g0.2.2.1 g0.2.2.2 eN)])[k]? = some (ad k, fw_e ad g0.2.2.1 g0.2.2.2 (w.2 k)) := by
    intro k hk
    rw [List.getElem?_append_left (by omega)]
    exact fw_w_get (g := fa_g g0 ad) (w := w) ⟨hk, rfl⟩
  have hne : ∀ k, k < w.1 → ad k ≠ q := fun k hk e => by
    have := hD.1 k w.1 _ _ (hold k hk) hnew e
    omega
  have hsz : s.heap.size ≤ q := by
    rcases hD.2 w.1 _ hnew with ⟨j, hj, e⟩ | h2
    · exact absurd ((Z.1.1 j hj).trans e.symm) (hne j (Nat.lt_of_lt_of_le hj Z.1.2.2))
    · exact h2
  have hN0 := Z.1.2.2
  refine ⟨⟨fun k hk => ?_, fun k hk hk2 => ?_, Nat.le_succ_of_le Z.1.2.2⟩, fun i j hi hj hij => ?_, ?_, hS, Z.2.2.2.2.push hb⟩
  · show (if k = w.1 then q else ad k) = _
    rw [if_neg (by omega)]; exact Z.1.1 k hk
  · have hk2 : k < w.1 + 1 := hk2
    show _ ≤ (if k = w.1 then q else ad k)
    by_cases h : k = w.1
    · rw [if_pos h]; exact hsz
    · rw [if_neg h]; exact Z.1.2.1 k hk (by omega)
  · have hi : i < w.1 + 1 := hi
    have hj : j < w.1 + 1 := hj
    have hij : (if i = w.1 then q else ad i) = (if j = w.1 then q else ad j) := hij
    by_cases h1 : i = w.1
    · by_cases h2 : j = w.1
      · omega
      · rw [if_pos h1, if_neg h2] at hij
        exact absurd hij.symm (hne j (by omega))
    · by_cases h2 : j = w.1
      · rw [if_neg h1, if_pos h2] at hij
        exact absurd hij (hne i (by omega))
      · rw [if_neg h1, if_neg h2] at hij
        exact Z.2.1 i j (by omega) (by omega) hij
  · show va_P g0.1 vwCl (fw_w (g0.1, (fun k => if k = w.1 then q else ad k), g0.2.2) (fw_push w eN)) H1
    rw [fw_w_push (ad := ad) Z.2.2.2.2 (fun k hk => if_neg (by omega))]
    rw [show (if w.1 = w.1 then q else ad w.1) = q from if_pos rfl]
    exact hP
theorem fx_new (C : fa_C M d mc ms p R s m args meth c g0) (Z : fa_Z g0 N0 s ad w H locs) {index ci N : Nat} {Cn : String} {T : u_T} (hd : decode M.2.1 pc = .ok (.new index, 3)) (hc : vwCl[ci]? = some (Cn, T, N)) (hin : ∀ x ∈ u_ws Cn T N, x ∈ okW) (ty : Nat → FieldType) (hty : ∀ k, k < N → parseFieldDescriptor (T k).2.2.1 = some (ty k)) (h1 : Cond.classLink M.1.cls index Cn ∈ okW) (h2 : Cond.instantiable Cn N ∈ okW) (h3 : Cond.initialized Cn ∈ okW) {fs : List Value} (hfs : ∀ j, j < N → defaultValue (ty j) = vp_V fs j) (hnr : ∀ ad' : Nat → Nat, fs.map (fw_v ad') = fs) (hk : cells + 1 ≤ mc) (hsl : slots + N ≤ ms)
    (kk : ∀ (ad' : Nat → Nat) (q : Nat) (H1 : Heap), (∀ k, k < w.1 → ad' k = ad k) → ad' w.1 = q → fa_Z g0 N0 s ad' (fw_push w (.inl (ci, fs))) H1 locs → W p l e R s m args below meth c H1 locs (cells + 1) (slots + N) Q (F0 m (pc + 3) ls (.ref q :: rest))) : W p l e R s m args below meth c H locs cells slots Q (F0 m pc ls rest) := by
  have hcb : fw_cb (w.1 + 1) (.inl (ci, fs)) := by
    intro v hv r hr
    subst hr
    have h5 := hnr (fun _ => r + 1)
    have h6 : (fs.map (fw_v (fun _ => r + 1))) = fs.map id := by rw [h5, List.map_id]
    have h7 := List.map_inj_left.mp h6 _ hv
    have h8 : Value.ref (r + 1) = Value.ref r := h7
    injection h8 with h9
    exact absurd h9 (Nat.succ_ne_self r)
  refine va_new C.1 C.2.1 C.2.2.2.2.2.1 hin ty hty C.2.2.2.2.1 (C.2.2.2.2.2.1 _ h1) (C.2.2.2.2.2.1 _ h2) (C.2.2.2.2.2.1 _ h3) C.2.2.2.2.2.2.2.2.1 Z.2.2.1 Z.D Z.2.2.2.1 (fun q hq => Or.inr hq) hc hfs (Nat.le_trans hk C.2.2.2.2.2.2.2.2.2.2.2.1) (Nat.le_trans hsl C.2.2.2.2.2.2.2.2.2.2.2.2) hd (fun q H1 hP hD hS => ?_)
  have he : fw_e (fun k => if k = w.1 then q else ad k) g0.2.2.1 g0.2.2.2 (.inl (ci, fs)) = .inr (ci, fs) := by
    show Sum.inr (ci, fs.map _) = _
    rw [hnr]
  exact kk (fun k => if k = w.1 then q else ad k) q H1 (fun k hk => if_neg (by omega)) (if_pos rfl) (Z.grow hcb (by rw [he]; exact hP) (by rw [he]; exact hD) hS)
theorem fx_newaI (C : fa_C M d mc ms p R s m args meth c g0) (Z : fa_Z g0 N0 s ad w H locs) {atype : ArrayType} (hat : newarray.typeOf atype = .int) (harr : Cond.arrayClass .int ∈ okW) (n : Nat) (hn : n ≤ 1000) (hd : decode M.2.1 pc = .ok (.newarray atype, 2)) (hk : cells + 1 ≤ mc) (hsl : slots + n ≤ ms)
    (kk : ∀ (ad' : Nat → Nat) (q : Nat) (H1 : Heap), (∀ k, k < w.1 → ad' k = ad k) → ad' w.1 = q → fa_Z g0 N0 s ad' (fw_push w (.inr (n, .inl (fun _ => 0)))) H1 locs → W p l e R s m args below meth c H1 locs (cells + 1) (slots + n) Q (F0 m (pc + 2) ls (.ref q :: rest))) : W p l e R s m args below meth c H locs cells slots Q (F0 m pc ls (.int (iI n) :: rest)) := by
  have hr : -2147483648 ≤ (n : Int) ∧ (n : Int) ≤ 2147483647 := by omega
  refine va_newa (a0 := (n, .inl (fun _ => iI 0))) C.1 C.2.1 (by rw [hat]; exact C.2.2.2.2.2.1 _ harr) hat C.2.2.2.2.2.2.2.2.1 Z.2.2.1 Z.D Z.2.2.2.1 (fun q hq => Or.inr hq) (fun cA => rfl) (fun z => by have := (iI_lt (b := 0) hr (by decide)).mp z; omega) (by show Int.toNat _ = n; rw [show (iI (n : Int)).toInt = n from fw_rng hr]; rfl) (by show n * 4 ≤ _; omega) (Nat.le_trans hk C.2.2.2.2.2.2.2.2.2.2.2.1) (Nat.le_trans hsl C.2.2.2.2.2.2.2.2.2.2.2.2) hd (fun q cA H1 hK hP hD hS => ?_)
  have hcA : cA = g0.2.2.1 := by
    have e1 := (hK.2 0 _ rfl).2
    have e2 := (hK.2 2 _ rfl).2
    exact Option.some.inj (e2.symm.trans e1)
  subst hcA
  exact kk (fun k => if k = w.1 then q else ad k) q H1 (fun k hk => if_neg (by omega)) (if_pos rfl) (Z.grow trivial hP hD hS)
theorem fx_newaJ (C : fa_C M d mc ms p R s m args meth c g0) (Z : fa_Z g0 N0 s ad w H locs) {atype : ArrayType} (hat : newarray.typeOf atype = .long) (harr : Cond.arrayClass .long ∈ okW) (n : Nat) (hn : n ≤ 1000) (hd : decode M.2.1 pc = .ok (.newarray atype, 2)) (hk : cells + 1 ≤ mc) (hsl : slots + n ≤ ms)
    (kk : ∀ (ad' : Nat → Nat) (q : Nat) (H1 : Heap), (∀ k, k < w.1 → ad' k = ad k) → ad' w.1 = q → fa_Z g0 N0 s ad' (fw_push w (.inr (n, .inr (fun _ => 0)))) H1 locs → W p l e R s m args below meth c H1 locs (cells + 1) (slots + n) Q (F0 m (pc + 2) ls (.ref q :: rest))) : W p l e R s m args below meth c H locs cells slots Q (F0 m pc ls (.int (iI n) :: rest)) := by
  have hr : -2147483648 ≤ (n : Int) ∧ (n : Int) ≤ 2147483647 := by omega
  refine va_newa (a0 := (n, .inr (.inl (fun _ => lI 0)))) C.1 C.2.1 (by rw [hat]; exact C.2.2.2.2.2.1 _ harr) hat C.2.2.2.2.2.2.2.2.1 Z.2.2.1 Z.D Z.2.2.2.1 (fun q hq => Or.inr hq) (fun cA => rfl) (fun z => by have := (iI_lt (b := 0) hr (by decide)).mp z; omega) (by show Int.toNat _ = n; rw [show (iI (n : Int)).toInt = n from fw_rng hr]; rfl) (by show n * 8 ≤ _; omega) (Nat.le_trans hk C.2.2.2.2.2.2.2.2.2.2.2.1) (Nat.le_trans hsl C.2.2.2.2.2.2.2.2.2.2.2.2) hd (fun q cA H1 hK hP hD hS => ?_)
  have hcA : cA = g0.2.2.2 := by
    have e1 := (hK.2 1 _ rfl).2
    have e2 := (hK.2 2 _ rfl).2
    exact Option.some.inj (e2.symm.trans e1)
  subst hcA
  exact kk (fun k => if k = w.1 then q else ad k) q H1 (fun k hk => if_neg (by omega)) (if_pos rfl) (Z.grow trivial hP hD hS)
end FX
