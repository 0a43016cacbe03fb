/-! The frame of ours: pure stores, runs 'fw_R' of a method to its end, contracts 'fw_K', a row an instruction (fr_). -/
abbrev fw_M : Type := MethodName × ByteArray × Nat × Option FieldType
abbrev fw_E : Type := (Nat × List Value) ⊕ (Nat × ((Nat → Int) ⊕ (Nat → Int)))
abbrev fw_S : Type := Nat × (Nat → fw_E)
abbrev fw_G : Type := va_G × (Nat → Nat) × ClassId × ClassId
def iI (z : Int) : Int32 := Int32.ofInt z
def lI (z : Int) : Int64 := Int64.ofInt z
def fw_v (ad : Nat → Nat) : Value → Value
  | .ref k => .ref (ad k)
  | v => v
def fw_e (ad : Nat → Nat) (cI cJ : ClassId) : fw_E → va_E
  | .inl o => .inr (o.1, o.2.map (fw_v ad))
  | .inr (n, .inl f) => .inl (cI, n, .inl (fun j => iI (f j)))
  | .inr (n, .inr f) => .inl (cJ, n, .inr (.inl (fun j => lI (f j))))
def fw_ad (g : fw_G) : Nat → Nat := g.2.1
def fw_cI (g : fw_G) : ClassId := g.2.2.1
def fw_cJ (g : fw_G) : ClassId := g.2.2.2
def fw_w (g : fw_G) (w : fw_S) : va_W := (List.range w.1).map (fun k => (fw_ad g k, fw_e (fw_ad g) (fw_cI g) (fw_cJ g) (w.2 k)))
def fw_A (g : fw_G) (N sz : Nat) : Nat → Prop := fun q => (∃ k, k < N ∧ q = fw_ad g k) ∨ sz ≤ q
def fw_ok (g : fw_G) (N : Nat) : Prop := ∀ i j, i < N → j < N → fw_ad g i = fw_ad g j → i = j
def fw_H (g : fw_G) (w : fw_S) (H : Heap) : Prop := va_P g.1 vwCl (fw_w g w) H
abbrev fw_ty (g : fw_G) : List (ClassId × FieldType) := [(fw_cI g, .int), (fw_cJ g, .long)]
def fw_up (w : fw_S) (k : Nat) (e : fw_E) : fw_S := (w.1, fun j => if j = k then e else w.2 j)
/-- the cell k of the store -/
def fw_g (w : fw_S) (k : Nat) (e : fw_E) : Prop := k < w.1 ∧ w.2 k = e
theorem fw_up1 (w : fw_S) (k : Nat) (e : fw_E) : (fw_up w k e).1 = w.1 := rfl
theorem fw_up_self (w : fw_S) (k : Nat) (e : fw_E) : (fw_up w k e).2 k = e := by simp [fw_up]
theorem fw_up_ne (w : fw_S) {k j : Nat} (e : fw_E) (h : j ≠ k) : (fw_up w k e).2 j = w.2 j := by simp [fw_up, h]
theorem fw_g.up {w : fw_S} {k : Nat} {e0 : fw_E} (h : fw_g w k e0) (e : fw_E) : fw_g (fw_up w k e) k e := ⟨h.1, fw_up_self w k e⟩
theorem fw_g.ne {w : fw_S} {k j : Nat} {e0 : fw_E} (h : fw_g w j e0) (e : fw_E) (hj : j ≠ k) : fw_g (fw_up w k e) j e0 := ⟨h.1, (fw_up_ne w e hj).trans h.2⟩
theorem fw_g.inj {w : fw_S} {k : Nat} {e e' : fw_E} (h : fw_g w k e) (h' : fw_g w k e') : e = e' := h.2.symm.trans h'.2
theorem fw_g.oa {w : fw_S} {k j : Nat} {e : Nat × List Value} {e' : Nat × ((Nat → Int) ⊕ (Nat → Int))} (h : fw_g w k (.inl e)) (h' : fw_g w j (.inr e')) : k ≠ j := by
  intro q; subst q; have := h.inj h'; cases this
theorem fw_up_up (w : fw_S) (k : Nat) (e e' : fw_E) : fw_up (fw_up w k e) k e' = fw_up w k e' := by
  refine Prod.ext rfl ?_
  funext j; by_cases h : j = k <;> simp [fw_up, h]
theorem fw_up_id {w : fw_S} {k : Nat} {e : fw_E} (h : fw_g w k e) : fw_up w k e = w := by
  refine Prod.ext rfl ?_
  funext j; by_cases hj : j = k
  · subst hj; simp [fw_up, h.2]
  · simp [fw_up, hj]
theorem fw_up_swap (w : fw_S) {k j : Nat} (e e' : fw_E) (h : k ≠ j) : fw_up (fw_up w k e) j e' = fw_up (fw_up w j e') k e := by
  refine Prod.ext rfl ?_
  funext i
  by_cases h1 : i = k
  · subst h1
    simp [fw_up, h]
  · by_cases h2 : i = j
    · subst h2; simp [fw_up, h1]
    · simp [fw_up, h1, h2]
theorem fw_w_get {g : fw_G} {w : fw_S} {k : Nat} {e : fw_E} (h : fw_g w k e) : (fw_w g w)[k]? = some (fw_ad g k, fw_e (fw_ad g) (fw_cI g) (fw_cJ g) e) := by
  simp [fw_w, h.1, h.2]
theorem fw_w_set {g : fw_G} {w : fw_S} {k : Nat} {e : fw_E} (hk : k < w.1) : (fw_w g w).set k (fw_ad g k, fw_e (fw_ad g) (fw_cI g) (fw_cJ g) e) = fw_w g (fw_up w k e) := by
  apply List.ext_getElem?
  intro i
  by_cases hi : i = k
  · subst hi
    rw [fw_w_get (w := fw_up w i e) (e := e) ⟨hk, fw_up_self w i e⟩, List.getElem?_set_self]
    simp [fw_w, hk]
  · rw [List.getElem?_set_ne (Ne.symm hi)]
    by_cases hl : i < w.1
    · rw [fw_w_get (w := w) ⟨hl, rfl⟩, fw_w_get (w := fw_up w k e) ⟨hl, fw_up_ne _ _ hi⟩]
    · simp [fw_w, hl, fw_up1]
theorem fw_D {g : fw_G} {w : fw_S} {sz : Nat} (h : fw_ok g w.1) : va_D (fw_A g w.1 sz) (fw_w g w) := by
  refine ⟨fun i j p q hi hj hpq => ?_, fun k q hk => ?_⟩
  · have hi' : i < w.1 := by
      have := (List.getElem?_eq_some_iff.mp hi).1
      simpa [fw_w] using this
    have hj' : j < w.1 := by
      have := (List.getElem?_eq_some_iff.mp hj).1
      simpa [fw_w] using this
    rw [fw_w_get ⟨hi', rfl⟩] at hi
    rw [fw_w_get ⟨hj', rfl⟩] at hj
    cases hi; cases hj
    exact h i j hi' hj' hpq
  · have hk' : k < w.1 := by
      have := (List.getElem?_eq_some_iff.mp hk).1
      simpa [fw_w] using this
    rw [fw_w_get ⟨hk', rfl⟩] at hk
    cases hk
    exact Or.inl ⟨k, hk', rfl⟩
/-- the locals, by their places -/
def fw_l (ad : Nat → Nat) (ls : Array Slot) (nL : Nat) (L : List (Option Value)) : Prop := ls.size = nL ∧ lv_wf ls ∧ ∀ (i : Nat) (v : Value), L[i]? = some (some v) → ls[i]? = some (.val (fw_v ad v))
def fw_ll (ad : Nat → Nat) (L : List (Option Value)) : List (Nat × Value) := (List.range L.length).filterMap (fun i => match L[i]? with
  | some (some v) => some (i, fw_v ad v)
  | _ => none)
theorem fw_ll_mem {ad : Nat → Nat} {L : List (Option Value)} {q : Nat × Value} : q ∈ fw_ll ad L ↔ ∃ v, L[q.1]? = some (some v) ∧ q.2 = fw_v ad v := by
  unfold fw_ll
  rw [List.mem_filterMap]
  constructor
  · rintro ⟨i, hi, h⟩
    split at h
    next v hv => cases h; exact ⟨v, hv, rfl⟩
    next => cases h
  · rintro ⟨v, hv, h2⟩
    refine ⟨q.1, List.mem_range.mpr (List.getElem?_eq_some_iff.mp hv).1, ?_⟩
    rw [hv]
    simp only []
    rw [← h2]
theorem fw_l_has {ad : Nat → Nat} {ls : Array Slot} {nL : Nat} {L : List (Option Value)} (h : fw_l ad ls nL L) : lv_has ls nL (fw_ll ad L) := by
  refine ⟨h.1, h.2.1, fun q hq => ?_⟩
  obtain ⟨v, hv, h2⟩ := fw_ll_mem.mp hq
  rw [h.2.2 _ v hv, h2]
/-- no long ends just ahead of the place -/
def fw_nl (L : List (Option Value)) : Nat → Bool
  | 0 => true
  | i + 1 => match L[i]? with
    | some (some (.long _)) => false
    | some (some (.double _)) => false
    | _ => true
theorem fw_v_cat (ad : Nat → Nat) (v : Value) : (fw_v ad v).category = v.category := by cases v <;> rfl
theorem fw_l_set1 {ad : Nat → Nat} {ls' : Array Slot} {nL i : Nat} {L : List (Option Value)} {v : Value} (hn : fw_nl L i = true) (h : lv_has ls' nL ((i, fw_v ad v) :: (fw_ll ad L).filter (fun q => !(q.1 == i) && !(q.1 + 1 == i && q.2.category == 2)))) : fw_l ad ls' nL (L.set i (some v)) := by
  refine ⟨h.1, h.2.1, fun j x hx => ?_⟩
  by_cases hj : j = i
  · subst hj
    have hlt := (List.getElem?_eq_some_iff.mp hx).1
    rw [List.getElem?_set_self (by simpa using hlt)] at hx
    cases hx
    exact h.2.2 (j, fw_v ad v) List.mem_cons_self
  · rw [List.getElem?_set_ne (Ne.symm hj)] at hx
    refine h.2.2 (j, fw_v ad x) (List.mem_cons_of_mem _ (List.mem_filter.mpr ⟨fw_ll_mem.mpr ⟨x, hx, rfl⟩, ?_⟩))
    simp only [Bool.and_eq_true, Bool.not_eq_true', beq_eq_false_iff_ne, ne_eq]
    refine ⟨hj, ?_⟩
    rw [Bool.and_eq_false_iff]
    by_cases h1 : j + 1 = i
    · right
      subst h1
      rw [fw_v_cat]
      simp only [fw_nl, hx] at hn
      cases x <;> first | rfl | cases hn
    · left; simpa using h1
theorem fw_l_set2 {ad : Nat → Nat} {ls' : Array Slot} {nL i : Nat} {L : List (Option Value)} {v : Value} (hn : fw_nl L i = true) (h : lv_has ls' nL ((i, fw_v ad v) :: (fw_ll ad L).filter (fun q => !(q.1 == i) && (!(q.1 == i + 1) && !(q.1 + 1 == i && q.2.category == 2))))) : fw_l ad ls' nL ((L.set i (some v)).set (i + 1) none) := by
  refine ⟨h.1, h.2.1, fun j x hx => ?_⟩
  by_cases hj1 : j = i + 1
  · subst hj1
    have hlt := (List.getElem?_eq_some_iff.mp hx).1
    rw [List.getElem?_set_self (by simpa using hlt)] at hx
    cases hx
  rw [List.getElem?_set_ne (Ne.symm hj1)] at hx
  by_cases hj : j = i
  · subst hj
    have hlt := (List.getElem?_eq_some_iff.mp hx).1
    rw [List.getElem?_set_self (by simpa using hlt)] at hx
    cases hx
    exact h.2.2 (j, fw_v ad v) List.mem_cons_self
  · rw [List.getElem?_set_ne (Ne.symm hj)] at hx
    refine h.2.2 (j, fw_v ad x) (List.mem_cons_of_mem _ (List.mem_filter.mpr ⟨fw_ll_mem.mpr ⟨x, hx, rfl⟩, ?_⟩))
    simp only [Bool.and_eq_true, Bool.not_eq_true', beq_eq_false_iff_ne, ne_eq]
    refine ⟨hj, hj1, ?_⟩
    rw [Bool.and_eq_false_iff]
    by_cases h1 : j + 1 = i
    · right
      subst h1
      rw [fw_v_cat]
      simp only [fw_nl, hx] at hn
      cases x <;> first | rfl | cases hn
    · left; simpa using h1
theorem fw_args_get : ∀ (vs : List Value) (k : Nat), (∀ v ∈ vs, v.category = 1) → ∀ (i : Nat) (v : Value), vs[i]? = some v → (k + i, v) ∈ lv_args k vs
  | [], k, _, i, v, h => by simp at h
  | x :: vs, k, hc, i, v, h => by
    have hx : ¬ x.category = 2 := by rw [hc x List.mem_cons_self]; decide
    cases i with
    | zero =>
      rw [List.getElem?_cons_zero] at h
      cases h
      exact List.mem_cons_self
    | succ i =>
      rw [List.getElem?_cons_succ] at h
      have h1 := fw_args_get vs (k + 1) (fun y hy => hc y (List.mem_cons_of_mem _ hy)) i v h
      show _ ∈ (k, x) :: lv_args (if x.category = 2 then k + 2 else k + 1) vs
      rw [if_neg hx]
      refine List.mem_cons_of_mem _ ?_
      rw [show k + (i + 1) = k + 1 + i by omega]
      exact h1
/-- the words of the nest mates, which no list of good words holds -/
def fw_isN : Cond → Bool
  | .fieldLinkNest .. => true
  | .methodLinkNest .. => true
  | _ => false
def fw_nest : List Cond := lw_tbl.filter fw_isN
def fw_rm (d : Nat) : Room := { frames := d, cells := 0, slots := 0, locals := 64 * d }
def fw_ws (M : fw_M) : List Cond := Cond.code M.1 M.2.1 M.2.2.1 M.2.2.2 :: okW
def fw_Q (g : fw_G) (r : Option Value) (w' : fw_S) (sz : Nat) : Array Value → State → Outcome → State → Prop := fun _ st oc t => oc = .returned (r.map (fw_v (fw_ad g))) ∧ fw_H g w' t.heap ∧ va_F (fw_A g w'.1 sz) st t
/-- what holds all through a run of the method M, with room for d calls one in another -/
def fw_C (M : fw_M) (d : Nat) (p : Program) (l : Launch) (R : Room) (s : State) (m : MethodId) (args : Array Value) (meth : Method) (c : Code) (g : fw_G) (N : Nat) : Prop :=
  p.tables.exec = Jvm.exec ∧ c.code = M.2.1 ∧ meth.sig.returnType = M.2.2.2 ∧ c.maxLocals = M.2.2.1 ∧ s.vm.findClass M.1.cls = some m.cls ∧ (∀ w ∈ okW, w.before args s = true) ∧ (∀ w ∈ fw_nest, va_Nw w s) ∧ meth.locks = false ∧ va_K g.1 vwCl (fw_ty g) s ∧ fw_ok g N ∧ d ≤ R.frames ∧ 64 * d ≤ R.locals
/-- from here, the method M ends with the answer r and the store w' -/
def fw_R (M : fw_M) (d pc : Nat) (L : List (Option Value)) (S : List Value) (w : fw_S) (r : Option Value) (w' : fw_S) : Prop :=
  w'.1 = w.1 → ∀ (p : Program) (l : Launch) (e : Env) (R : Room) (s : State) (m : MethodId) (args : Array Value) (below : List Frame) (meth : Method) (c : Code) (g : fw_G), fw_C M d p l R s m args meth c g w.1 →
  ∀ (H : Heap) (locs : List Loc) (ls : Array Slot), fw_H g w H → va_S (fw_A g w.1 s.heap.size) s.heap H locs → fw_l (fw_ad g) ls M.2.2.1 L →
  W p l e R s m args below meth c H locs 0 0 (MQ below (fw_Q g r w' s.heap.size) args s 0 0 (fw_A g w.1 s.heap.size)) (F0 m pc ls (S.map (fw_v (fw_ad g))))
/-- the contract: in the store w, with these arguments, M answers r and leaves w' -/
def fw_K (d : Nat) (M : fw_M) (a : List Value) (w : fw_S) (r : Option Value) (w' : fw_S) : Prop :=
  w'.1 = w.1 ∧ ∀ (l : Launch) (g : fw_G) (sz : Nat), fw_ok g w.1 → Met l M.1 (fw_ws M) (fw_rm d) (va_Pc (a.map (fw_v (fw_ad g))) (fun U => U.heap.size = sz ∧ fw_H g w U.heap ∧ va_K g.1 vwCl (fw_ty g) U ∧ ∀ x ∈ fw_nest, va_Nw x U)) (fw_Q g r w' sz) 0 0 (fw_A g w.1 sz)
def fw_L0 (M : fw_M) (a : List Value) : List (Option Value) := a.map some ++ List.replicate (M.2.2.1 - a.length) none
theorem lg_sl_cat1 (vs : List Value) (h : ∀ v ∈ vs, v.category = 1) : (lg_sl vs).length = vs.length := by
  induction vs with
  | nil => rfl
  | cons v vs ih =>
    have h1 : ¬ v.category = 2 := by rw [h v List.mem_cons_self]; decide
    have h2 := ih (fun x hx => h x (List.mem_cons_of_mem _ hx))
    simp only [lg_sl, List.flatMap_cons, if_neg h1] at h2 ⊢
    simp [h2]
theorem fw_K.of {d : Nat} {M : fw_M} {a : List Value} {w : fw_S} {r : Option Value} {w' : fw_S} (hp : plainName M.1.cls = true) (hl : a.length ≤ M.2.2.1) (ha : ∀ v ∈ a, v.category = 1)
    (hN' : w'.1 = w.1) (h : fw_R M d 0 (fw_L0 M a) [] w r w') : fw_K d M a w r w' := by
  refine ⟨hN', ?_⟩
  intro l g sz hg
  refine Met.ofW (cc := M.2.1) (maxL := M.2.2.1) (ret := M.2.2.2) hp rfl ?_
  intro p e s m args below meth c s₁ B hml hv
  obtain ⟨rfl, hsz, hP, hK, hN⟩ := hv
  subst hsz
  have hts := atoms_spec (ws := fw_ws M) B.pre
  have hown : s.vm.findClass M.1.cls = some m.cls := findClass_of_methodNamed B.named
  have hc1 : ∀ v ∈ a.map (fw_v (fw_ad g)), v.category = 1 := by
    intro v hv
    obtain ⟨x, hx, rfl⟩ := List.mem_map.mp hv
    rw [fw_v_cat]; exact ha x hx
  have hlen : (lg_sl (a.map (fw_v (fw_ad g)))).length ≤ M.2.2.1 := by rw [lg_sl_cat1 _ hc1]; simpa using hl
  have hlv := lv_entry (a.map (fw_v (fw_ad g))) (n := M.2.2.1) hlen
  rw [lg_entry_eq]
  refine h hN' p l e _ s m _ below meth c g ⟨B.exec, B.bytes, B.returns, hml, hown, fun x hx => hts x (List.mem_cons_of_mem _ hx), hN, B.notSynchronized, hK, hg, Nat.le_refl _, Nat.le_refl _⟩ s.heap [] _ hP va_S.rf ⟨hlv.1, hlv.2.1, fun i v hv => ?_⟩
  have hi : i < a.length := by
    rcases Nat.lt_or_ge i a.length with h1 | h1
    · exact h1
    · exfalso
      rw [fw_L0, List.getElem?_append_right (by simpa using h1)] at hv
      have := List.mem_of_getElem? hv
      rw [List.mem_replicate] at this
      exact absurd this.2 (by simp)
  rw [fw_L0, List.getElem?_append_left (by simpa using hi), List.getElem?_map] at hv
  have hv2 : a[i]? = some v := by
    cases hq : a[i]? with
    | none => rw [hq] at hv; cases hv
    | some y => rw [hq] at hv; simpa using hv
  have hm := fw_args_get (a.map (fw_v (fw_ad g))) 0 hc1 i (fw_v (fw_ad g) v) (by rw [List.getElem?_map, hv2]; rfl)
  have := hlv.2.2 _ hm
  simpa using this
theorem fw_R.weak {M : fw_M} {d pc : Nat} {L1 L2 : List (Option Value)} {S : List Value} {w : fw_S} {r : Option Value} {w' : fw_S} (h : fw_R M d pc L1 S w r w') (hL : ∀ (i : Nat) (v : Value), L1[i]? = some (some v) → L2[i]? = some (some v)) : fw_R M d pc L2 S w r w' := by
  intro hN p l e R s m args below meth c g C H locs ls hH hS hl
  exact h hN p l e R s m args below meth c g C H locs ls hH hS ⟨hl.1, hl.2.1, fun i v hv => hl.2.2 i v (hL i v hv)⟩
def fw_le : List (Option Value) → List (Option Value) → Prop
  | [], _ => True
  | none :: a, [] => fw_le a []
  | some _ :: _, [] => False
  | none :: a, _ :: b => fw_le a b
  | some x :: a, y :: b => y = some x ∧ fw_le a b
theorem fw_le.get : ∀ (a b : List (Option Value)), fw_le a b → ∀ (i : Nat) (v : Value), a[i]? = some (some v) → b[i]? = some (some v)
  | [], _, _, i, v, h => by simp at h
  | none :: a, [], h, i, v, hi => by
    cases i with
    | zero => simp at hi
    | succ i => have := fw_le.get a [] h i v (by simpa using hi); simp at this
  | some _ :: _, [], h, _, _, _ => h.elim
  | none :: a, _ :: b, h, i, v, hi => by
    cases i with
    | zero => simp at hi
    | succ i => exact fw_le.get a b h i v (by simpa using hi)
  | some x :: a, y :: b, h, i, v, hi => by
    cases i with
    | zero => rw [List.getElem?_cons_zero] at hi ⊢; rw [h.1]; exact hi
    | succ i => exact fw_le.get a b h.2 i v (by simpa using hi)
theorem fw_R.wk {M : fw_M} {d pc : Nat} {L1 L2 : List (Option Value)} {S : List Value} {w : fw_S} {r : Option Value} {w' : fw_S} (h : fw_R M d pc L1 S w r w') (hL : fw_le L1 L2) : fw_R M d pc L2 S w r w' := h.weak (fw_le.get _ _ hL)
