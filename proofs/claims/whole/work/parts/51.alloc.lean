/-! rows of the constructors and of the law: fields, calls -/
theorem fw_up_wf {w : fw_S} {o : Nat} {e : fw_E} (h : fw_wf w) (he : fw_cb w.1 e) : fw_wf (fw_up w o e) := h.kp (kp.up w o e) (fun k hk _ => by subst hk; rw [fw_up_self]; exact he)
/-- a final field that holds a reference, put by the constructor -/
def fk_putG (M : fw_M) (pc ci k : Nat) : Prop := ∃ (index : Nat) (C : String) (T : u_T) (N : Nat) (ty : Nat → FieldType) (tk : FieldType), decode M.2.1 pc = .ok (.putfield index, 3) ∧ vwCl[ci]? = some (C, T, N) ∧ (∀ x ∈ u_ws C T N, x ∈ okW) ∧ k < N ∧ (T k).1 = C ∧ C = M.1.cls ∧ Cond.fieldLink M.1.cls index C (T k).2.1 (T k).2.2.1 ∈ okW ∧ (∀ k, k < N → parseFieldDescriptor (T k).2.2.1 = some (ty k)) ∧ (∀ a, a < N → ∀ b, b < N → a ≠ b → (T a).2.1 ≠ (T b).2.1) ∧ (T k).2.2.2 = true ∧ parseFieldDescriptor (T k).2.2.1 = some tk ∧ (∀ q, narrow tk (.ref q) = .ref q) ∧ ∀ q, fits tk (.ref q) = true
/-- a constructor called -/
def fk_I (M Mc : fw_M) (pc n : Nat) : Prop := ∃ (index : Nat) (host : String), decode M.2.1 pc = .ok (.invokespecial index, 3) ∧ (Cond.methodLink M.1.cls index Mc.1 ∈ okW ∨ Cond.methodLinkNest M.1.cls index Mc.1 host ∈ fw_nest) ∧ Cond.instanceMethod Mc.1 ∈ okW ∧ Cond.initialized Mc.1.cls ∈ okW ∧ Cond.code Mc.1 Mc.2.1 Mc.2.2.1 none ∈ okW ∧ Mc.2.2.2 = none ∧ Mc.1.name = "<init>" ∧ (Mc.1.cls ≠ "java/lang/invoke/MethodHandle" ∧ Mc.1.cls ≠ "java/lang/invoke/VarHandle" ∧ (parseMethodDescriptor Mc.1.desc).map (fun d => d.parameters.length) = some n) ∧ Mc.2.2.1 ≤ 45
section FX2
variable {M : fw_M} {d mc ms : Nat} {p : Program} {l : Launch} {e : Env} {R : Room} {s : State} {m : MethodId} {args : Array Value} {below : List Frame} {meth : Method} {c : Code} {H : Heap} {locs : List Loc} {cells slots : Nat} {Q : State → Prop} {g0 : fw_G} {N0 : Nat} {ad : Nat → Nat} {w : fw_S} {pc : Nat} {ls : Array Slot} {rest : List Value}
theorem fa_Z.put {o ci : Nat} {fs fs' : List Value} {H1 : Heap} {locs1 : List Loc} (Z : fa_Z g0 N0 s ad w H locs) (hw : fw_g w o (.inl (ci, fs))) (hcb : fw_cb w.1 (.inl (ci, fs'))) (hP : va_P g0.1 vwCl ((fw_w (fa_g g0 ad) w).set o (ad o, .inr (ci, fs'.map (fw_v ad)))) H1) (hS : va_S (fw_A g0 N0 s.heap.size) s.heap H1 locs1) : fa_Z g0 N0 s ad (fw_up w o (.inl (ci, fs'))) H1 locs1 := by
  refine ⟨Z.1, Z.2.1, ?_, hS, fw_up_wf Z.2.2.2.2 hcb⟩
  have e2 := fw_w_set (g := fa_g g0 ad) (w := w) (k := o) (e := .inl (ci, fs')) hw.1
  show va_P g0.1 vwCl (fw_w (fa_g g0 ad) (fw_up w o (.inl (ci, fs')))) H1
  rw [← e2]
  exact hP
theorem fa_Z.cb_set {o ci k : Nat} {fs : List Value} {v : Value} (Z : fa_Z g0 N0 s ad w H locs) (hw : fw_g w o (.inl (ci, fs))) (hv : ∀ r, v = .ref r → r < w.1) : fw_cb w.1 (.inl (ci, fs.set k v)) := by
  intro x hx r hr
  rcases List.mem_or_eq_of_mem_set hx with h | h
  · have := Z.2.2.2.2 o hw.1
    rw [hw.2] at this
    exact this _ h r hr
  · exact hv r (h ▸ hr)
theorem fx_putF (C : fa_C M d mc ms p R s m args meth c g0) (hini : meth.name = "<init>") (Z : fa_Z g0 N0 s ad w H locs) {ci k : Nat} (hf : fk_putG M pc ci k) {o t qo qt : Nat} {fs fs' : List Value} (hw : fw_g w o (.inl (ci, fs))) (ho : ad o = qo) (ht : ad t = qt) (htl : t < w.1) (hkl : k < fs.length) (he' : fs.set k (.ref t) = fs')
    (kk : ∀ (H1 : Heap) (locs1 : List Loc), fa_Z g0 N0 s ad (fw_up w o (.inl (ci, fs'))) H1 locs1 → W p l e R s m args below meth c H1 locs1 cells slots Q (F0 m (pc + 3) ls rest)) : W p l e R s m args below meth c H locs cells slots Q (F0 m pc ls (.ref qt :: .ref qo :: rest)) := by
  subst he'; subst ho; subst ht
  obtain ⟨index, C', T, N, ty, tk, hd, hc, hin, hk, hT, hown, hlk, hty, hnm, hfin, hdesc, hnar, hfit⟩ := hf
  have he : (fw_w (fa_g g0 ad) w)[o]? = some (ad o, .inr (ci, fs.map (fw_v ad))) := by rw [fw_w_get hw]; rfl
  refine va_putF (Ts := okW) C.1 C.2.1 C.2.2.2.2.2.1 hin ty hty hnm C.2.2.2.2.1 C.2.2.2.2.2.2.2.2.1 Z.2.2.1 Z.D Z.2.2.2.1 o he hc k hk (C.2.2.2.2.2.1 _ hlk) (fun x hx => by rw [hT] at hx; exact hx) hfin hini (hT.trans hown) hdesc (hnar _) (hfit _) (by simpa using hkl) hd (fun H1 locs1 hP hD hS1 => kk H1 locs1 (Z.put hw (Z.cb_set hw (fun r hr => by cases hr; exact htl)) ?_ hS1))
  rw [List.map_set]
  exact hP
theorem fx_putI (C : fa_C M d mc ms p R s m args meth c g0) (Z : fa_Z g0 N0 s ad w H locs) {ci k : Nat} (hf : fk_get M pc ci k true) (hp : fk_put ci k) {o qo : Nat} {fs fs' : List Value} {x : Int32} (hw : fw_g w o (.inl (ci, fs))) (ho : ad o = qo) (hkl : k < fs.length) (he' : fs.set k (.int x) = fs')
    (kk : ∀ (H1 : Heap) (locs1 : List Loc), fa_Z g0 N0 s ad (fw_up w o (.inl (ci, fs'))) H1 locs1 → W p l e R s m args below meth c H1 locs1 cells slots Q (F0 m (pc + 3) ls rest)) : W p l e R s m args below meth c H locs cells slots Q (F0 m pc ls (.int x :: .ref qo :: rest)) := by
  subst he'; subst ho
  obtain ⟨index, C', T, N, host, hd, hc, hin, hk, hT, hlk⟩ := hf
  obtain ⟨C2, T2, N2, ty, hc2, hty, hnm, hfin, hdesc⟩ := hp
  cases hc.symm.trans hc2
  have he : (fw_w (fa_g g0 ad) w)[o]? = some (ad o, .inr (ci, fs.map (fw_v ad))) := by rw [fw_w_get hw]; rfl
  rcases hlk with h | h
  · refine va_put (Ts := okW) C.1 C.2.1 C.2.2.2.2.2.1 hin ty hty hnm C.2.2.2.2.1 C.2.2.2.2.2.2.2.2.1 Z.2.2.1 Z.D Z.2.2.2.1 o he hc k hk (C.2.2.2.2.2.1 _ h) (fun x hx => by rw [hT] at hx; exact hx) hfin hdesc rfl rfl (by simpa using hkl) hd (fun H1 locs1 hP hD hS1 => kk H1 locs1 (Z.put hw (Z.cb_set hw (fun r hr => by cases hr)) ?_ hS1))
    rw [List.map_set]
    exact hP
  · refine va_putN (Ts := okW) C.1 C.2.1 C.2.2.2.2.2.1 hin ty hty hnm C.2.2.2.2.1 C.2.2.2.2.2.2.2.2.1 Z.2.2.1 Z.D Z.2.2.2.1 o he hc k hk (va_Nw.use rfl (C.2.2.2.2.2.2.1 _ h)) (fun x hx => by rw [hT] at hx; exact hx) hfin hdesc rfl rfl (by simpa using hkl) hd (fun H1 locs1 hP hD hS1 => kk H1 locs1 (Z.put hw (Z.cb_set hw (fun r hr => by cases hr)) ?_ hS1))
    rw [List.map_set]
    exact hP
theorem fx_get (C : fa_C M d mc ms p R s m args meth c g0) (Z : fa_Z g0 N0 s ad w H locs) {ci k : Nat} (hf : fk_get M pc ci k false) {o t qo qt : Nat} {fs : List Value} (hw : fw_g w o (.inl (ci, fs))) (hv : fs[k]? = some (.ref t)) (ho : ad o = qo) (ht : ad t = qt) (kk : W p l e R s m args below meth c H locs cells slots Q (F0 m (pc + 3) ls (.ref qt :: rest))) : W p l e R s m args below meth c H locs cells slots Q (F0 m pc ls (.ref qo :: rest)) := by
  subst ho; subst ht
  obtain ⟨index, C', T, N, host, hd, hc, hin, hk, hT, hlk⟩ := hf
  have he : (fw_w (fa_g g0 ad) w)[o]? = some (ad o, .inr (ci, fs.map (fw_v ad))) := by rw [fw_w_get hw]; rfl
  have hv' : (fs.map (fw_v ad))[k]? = some (.ref (ad t)) := by rw [List.getElem?_map, hv]; rfl
  rcases hlk with h | h
  · exact va_get (Ts := okW) C.1 C.2.1 C.2.2.2.2.2.1 hin C.2.2.2.2.1 C.2.2.2.2.2.2.2.2.1 Z.2.2.1 o he hc k hk (C.2.2.2.2.2.1 _ h) (fun x hx => by rw [hT] at hx; exact hx) hv' hd kk
  · exact va_getN (Ts := okW) C.1 C.2.1 C.2.2.2.2.2.1 hin C.2.2.2.2.1 C.2.2.2.2.2.2.2.2.1 Z.2.2.1 o he hc k hk (va_Nw.use rfl (C.2.2.2.2.2.2.1 _ h)) (fun x hx => by rw [hT] at hx; exact hx) hv' hd kk
theorem fa_Z.A (Z : fa_Z g0 N0 s ad w H locs) : ∀ q, fw_A (fa_g g0 ad) w.1 H.size q → fw_A g0 N0 s.heap.size q := by
  intro q hq
  rcases hq with ⟨j, hj, e⟩ | h
  · rcases Nat.lt_or_ge j N0 with h3 | h3
    · exact Or.inl ⟨j, h3, e.trans (Z.1.1 j h3)⟩
    · exact Or.inr (e ▸ Z.1.2.1 j h3 hj)
  · exact Or.inr (Nat.le_trans Z.2.2.2.1.1 h)
theorem fa_Z.S {H1 : Heap} {L : List Loc} {A1 : Nat → Prop} (Z : fa_Z g0 N0 s ad w H locs) (hA : ∀ q, A1 q → fw_A g0 N0 s.heap.size q) (hz : H.size ≤ H1.size) (hk : ∀ q : Nat, q < H.size → ¬ A1 q → H1[q]? = H[q]?) (hL : ∀ q ∈ L, A1 q.base) : va_S (fw_A g0 N0 s.heap.size) s.heap H1 (locs ++ L) :=
  ⟨Nat.le_trans Z.2.2.2.1.1 hz, fun q h1 h2 => by
    rw [hk q (Nat.lt_of_lt_of_le h1 Z.2.2.2.1.1) (fun z => h2 (hA q z))]
    exact Z.2.2.2.1.2.1 q h1 h2, fun q hq => by
    rcases List.mem_append.mp hq with h | h
    · exact Z.2.2.2.1.2.2 q h
    · exact hA _ (hL q h)⟩
/-- a method with a contract, called -/
theorem fx_callV (C : fa_C M d mc ms p R s m args meth c g0) (Z : fa_Z g0 N0 s ad w H locs) {Mc : fw_M} {dc ci n o : Nat} {As As' : List Value} {fs : List Value} {r1 : Option Value} {w1 : fw_S} {st : List Value} {qo : Nat} (hf : fk_V M Mc pc ci n) (hK : fw_K dc Mc (.ref o :: As) w r1 w1) (hdc : dc + 1 ≤ d) (hw : fw_g w o (.inl (ci, fs))) (hn : As.length = n) (hAs : ∀ f : Nat → Nat, As.map (fw_v f) = As) (ho : ad o = qo) (hs : st = As.reverse ++ .ref qo :: rest) (hcr : fw_cat rest ≤ 8) (hls : ls.size = M.2.2.1) (hcells : cells ≤ R.cells) (hslots : slots ≤ R.slots) (hwf : fw_wf w1) (hr1 : ∀ f : Nat → Nat, r1.map (fw_v f) = r1)
    (kk : ∀ (H1 : Heap) (locs1 : List Loc), fa_Z g0 N0 s ad w1 H1 locs1 → W p l e R s m args below meth c H1 locs1 cells slots Q (F0 m (pc + 3) ls (r1.toList ++ rest))) : W p l e R s m args below meth c H locs cells slots Q (F0 m pc ls st) := by
  subst hs; subst ho
  obtain ⟨index, host, T0, N0', hd, hci, hlk, hin, hsel, hini, hcode, hdd, hml⟩ := hf
  obtain ⟨hN1, hM⟩ := hK
  have hMet := hM l (fa_g g0 ad) H.size Z.2.1
  have hts := C.2.2.2.2.2.1
  have hG := fw_goodW hts hcode
  have hfx : CallFix p m c M.2.1 M.2.2.1 s args okW M.1.cls := ⟨C.1, C.2.1, C.2.2.2.1, C.2.2.2.2.1, hts⟩
  have hKs := C.2.2.2.2.2.2.2.2.1
  have hR : (fw_rm dc).frames + 1 ≤ R.frames ∧ 8 + (Mc.2.2.1 + 11) + (fw_rm dc).locals ≤ R.locals := by
    have h1 := C.2.2.2.2.2.2.2.2.2.1
    have h2 := C.2.2.2.2.2.2.2.2.2.2.1
    refine ⟨Nat.le_trans hdc h1, ?_⟩
    show 8 + (Mc.2.2.1 + 11) + 64 * dc ≤ R.locals
    omega
  have hpre : PreV s H Mc.1.cls (ad o) (va_Pc ((Value.ref o :: As).map (fw_v ad)) (fw_B (fa_g g0 ad) w H.size)) As := by
    rw [show As = As.map (fw_v ad) from (hAs ad).symm]
    refine ⟨fw_blind, va_recv hKs Z.2.2.1 hci (fw_w_get hw), fun U hU hW => ⟨by rw [List.map_cons, hAs, hAs]; rfl, by rw [hU], by rw [hU]; exact Z.2.2.1, va_K.moved hW.alike hKs, fun x hx => fw_nest_warm hx hW (C.2.2.2.2.2.2.1 x hx)⟩⟩
  have hgoal : ∀ (v : Option Value) (st₀ t T' : State) (L : List Loc), st₀.heap = H → (∀ q ∈ L, fw_A (fa_g g0 ad) w.1 H.size q.base) → T'.heap = t.heap → fw_Q (fa_g g0 ad) r1 w1 H.size #[] st₀ (.returned v) t → v = r1 ∧ fa_Z g0 N0 s ad w1 T'.heap (locs ++ L) := by
    intro v st₀ t T' L h0 hL e1 ⟨hv, hH1, hz, hk⟩
    have e3 := Outcome.returned.inj hv
    rw [hr1] at e3
    refine ⟨e3, ⟨?_, ?_, ?_, ?_, hwf⟩⟩
    · rw [hN1]; exact Z.1
    · rw [hN1]; exact Z.2.1
    · rw [e1]; exact hH1
    · rw [h0, hN1] at hk
      rw [h0] at hz
      rw [e1]
      exact Z.S Z.A hz (fun q h1 h2 => by rw [hk q h1 h2]) hL
  have run : va_Run p l e R s m args below meth c H locs cells slots 0 0 (F0 m pc ls (As.reverse ++ .ref (ad o) :: rest)) rest (fw_Q (fa_g g0 ad) r1 w1 H.size (Value.ref (ad o) :: As).toArray) (fw_A (fa_g g0 ad) w.1 H.size) := by
    have hcat : 2 * 0 + (rest.map fun v => v.category).sum ≤ 8 := by show 2 * 0 + fw_cat rest ≤ 8; omega
    rcases hlk with h | h
    · exact va_runV (n := n) hfx hMet (cwV n hts (fun x hx => by
        unfold wsV at hx
        rcases List.mem_append.mp hx with h1 | h1
        · have : x ∈ okW := by
            simp only [List.mem_cons, List.not_mem_nil, or_false] at h1
            rcases h1 with rfl | rfl | rfl | rfl
            · exact h
            · exact hin
            · exact hsel
            · exact hini
          exact ⟨this, good_of_word (okW_good this)⟩
        · exact hG x h1) rfl rfl rfl ⟨rfl, hdd⟩ hR) hpre rfl hn hls rfl hcat hd ⟨hcells, hslots⟩
    · exact va_runVN (n := n) (host := host) hfx hMet ⟨va_cnB n hts hG rfl rfl rfl (C.2.2.2.2.2.2.1 _ h) (hts _ hini) hdd hR, hts _ hin, hts _ hsel⟩ hpre rfl hn hls rfl hcat hd ⟨hcells, hslots⟩
  intro T hT X
  obtain ⟨v, st₀, t, T', L, h0, X', hL, e1, e2, hq, st⟩ := run T hT X
  obtain ⟨e3, Z1⟩ := hgoal v st₀ t T' L h0 hL e1 hq
  subst e3
  obtain ⟨t2, a1, b1⟩ := kk T'.heap (locs ++ L) Z1 T' rfl X'
  exact ⟨t2, st t2 a1, b1⟩
/-- a constructor with a contract, called -/
theorem fx_callI (C : fa_C M d mc ms p R s m args meth c g0) (Z : fa_Z g0 N0 s ad w H locs) {Mc : fw_M} {dc mc1 ms1 n o : Nat} {As As' : List Value} {w1 : fw_S} {st : List Value} {qo : Nat} (hf : fk_I M Mc pc n) (hK : fa_K dc mc1 ms1 Mc (.ref o :: As) w w1) (hN1 : w.1 ≤ w1.1) (hdc : dc + 1 ≤ d) (hn : As.length = n) (hAs : As.map (fw_v ad) = As') (ho : ad o = qo) (hs : st = As'.reverse ++ .ref qo :: rest) (hcr : fw_cat rest ≤ 8) (hls : ls.size = M.2.2.1) (hk : cells + mc1 ≤ mc) (hsl : slots + ms1 ≤ ms) (hwf : fw_wf w1)
    (kk : ∀ (ad' : Nat → Nat) (H1 : Heap) (locs1 : List Loc), (∀ k, k < w.1 → ad' k = ad k) → fa_Z g0 N0 s ad' w1 H1 locs1 → W p l e R s m args below meth c H1 locs1 (cells + mc1) (slots + ms1) Q (F0 m (pc + 3) ls rest)) : W p l e R s m args below meth c H locs cells slots Q (F0 m pc ls st) := by
  subst hs; subst ho; subst hAs
  obtain ⟨index, host, hd, hlk, hin, hini, hcode, hret, hname, hdd, hml⟩ := hf
  have hMet := hK l (fa_g g0 ad) H.size Z.2.1
  have hts := C.2.2.2.2.2.1
  have hG : GoodIn okW (fw_ws Mc) := fw_goodW hts (by rw [hret]; exact hcode)
  have hfx : CallFix p m c M.2.1 M.2.2.1 s args okW M.1.cls := ⟨C.1, C.2.1, C.2.2.2.1, C.2.2.2.2.1, hts⟩
  have hKs := C.2.2.2.2.2.2.2.2.1
  have hw0 : fw_ws Mc = Cond.code Mc.1 Mc.2.1 Mc.2.2.1 none :: okW := by show Cond.code _ _ _ _ :: okW = _; rw [hret]
  have hR : (fa_rm dc mc1 ms1).frames + 1 ≤ R.frames ∧ 8 + (Mc.2.2.1 + 11) + (fa_rm dc mc1 ms1).locals ≤ R.locals := by
    have h1 := C.2.2.2.2.2.2.2.2.2.1
    have h2 := C.2.2.2.2.2.2.2.2.2.2.1
    refine ⟨Nat.le_trans hdc h1, ?_⟩
    show 8 + (Mc.2.2.1 + 11) + 64 * dc ≤ R.locals
    omega
  have hpre : PreS s H (va_Pc ((Value.ref o :: As).map (fw_v ad)) (fw_B (fa_g g0 ad) w H.size)) (Value.ref (ad o) :: As.map (fw_v ad)) := by
    refine ⟨fw_blind, fun U hU hW => ⟨rfl, by rw [hU], by rw [hU]; exact Z.2.2.1, va_K.moved hW.alike hKs, fun x hx => fw_nest_warm hx hW (C.2.2.2.2.2.2.1 x hx)⟩⟩
  have hf2 : cells + mc1 ≤ R.cells ∧ slots + ms1 ≤ R.slots := ⟨Nat.le_trans hk C.2.2.2.2.2.2.2.2.2.2.2.1, Nat.le_trans hsl C.2.2.2.2.2.2.2.2.2.2.2.2⟩
  have run : va_Run p l e R s m args below meth c H locs cells slots mc1 ms1 (F0 m pc ls ((As.map (fw_v ad)).reverse ++ .ref (ad o) :: rest)) rest (fa_Q (fa_g g0 ad) w.1 w1 H.size (Value.ref (ad o) :: As.map (fw_v ad)).toArray) (fw_A (fa_g g0 ad) w.1 H.size) := by
    have hcat : 2 * 0 + (rest.map fun v => v.category).sum ≤ 8 := by show 2 * 0 + fw_cat rest ≤ 8; omega
    rcases hlk with h | h
    · exact va_runI (n := n) hfx hMet (cwI n hts hG hw0 rfl rfl (hts _ hini) (hts _ h) (hts _ hin) hname hdd hR) hpre rfl (by simpa using hn) hls rfl hcat hd hf2
    · exact va_runIN (n := n) (host := host) hfx hMet ⟨va_cnB n hts hG hw0 rfl rfl (C.2.2.2.2.2.2.1 _ h) (hts _ hini) hdd hR, hname, hts _ hin⟩ hpre rfl (by simpa using hn) hls rfl hcat hd hf2
  intro T hT X
  obtain ⟨v, st₀, t, T', L, h0, X', hL, e1, e2, ⟨hv, ⟨ad', hX, hok, hH1⟩, hz, hk2⟩, st⟩ := run T hT X
  cases hv
  have Z1 : fa_Z g0 N0 s ad' w1 T'.heap (locs ++ L) := by
    refine ⟨⟨fun k hk => ?_, fun k hk hk3 => ?_, Nat.le_trans Z.1.2.2 hN1⟩, hok, by rw [e1]; exact hH1, ?_, hwf⟩
    · rw [hX.1 k (Nat.lt_of_lt_of_le hk Z.1.2.2)]; exact Z.1.1 k hk
    · rcases Nat.lt_or_ge k w.1 with h3 | h3
      · rw [hX.1 k h3]; exact Z.1.2.1 k hk h3
      · exact Nat.le_trans Z.2.2.2.1.1 (hX.2.1 k h3 hk3)
    · rw [h0] at hz hk2
      rw [e1]
      exact Z.S Z.A hz (fun q h1 h2 => by rw [hk2 q h1 h2]) hL
  obtain ⟨t2, a1, b1⟩ := kk ad' T'.heap (locs ++ L) hX.1 Z1 T' rfl X'
  exact ⟨t2, st t2 a1, b1⟩
/-- the beginning of a constructor -/
theorem fa_K.of {a : List Value} {w' : fw_S} (hpl : plainName M.1.cls = true) (hN : w.1 ≤ w'.1) (hwf : fw_wf w) (hla : (lg_sl (a.map (fw_v id))).length ≤ M.2.2.1)
    (h : ∀ (p : Program) (l : Launch) (e : Env) (s : State) (m : MethodId) (args : Array Value) (below : List Frame) (meth : Method) (c : Code) (g0 : fw_G) (ls : Array Slot), fa_C M d mc ms p (fa_rm d mc ms) s m args meth c g0 → (∃ b, M.1.name = b ∧ meth.name = b) → fa_Z g0 w.1 s (fw_ad g0) w s.heap [] → lv_has ls M.2.2.1 (lv_args 0 (a.map (fw_v (fw_ad g0)))) → W p l e (fa_rm d mc ms) s m args below meth c s.heap [] 0 0 (MQ below (fa_Q g0 w.1 w' s.heap.size) args s mc ms (fw_A g0 w.1 s.heap.size)) (F0 m 0 ls [])) : fa_K d mc ms M a w w' := by
  intro l g sz hg
  refine Met.ofW (cc := M.2.1) (maxL := M.2.2.1) (ret := M.2.2.2) hpl rfl ?_
  intro p e s m args below meth c s₁ B hml hv
  obtain ⟨rfl, hsz, hP, hK, hNw⟩ := hv
  subst hsz
  have hts := atoms_spec (ws := fw_ws M) B.pre
  have hown : s.vm.findClass M.1.cls = some m.cls := findClass_of_methodNamed B.named
  have hlen : (lg_sl (a.map (fw_v (fw_ad g)))).length ≤ M.2.2.1 := by
    have e1 : ∀ (f f' : Nat → Nat) (vs : List Value), (lg_sl (vs.map (fw_v f))).length = (lg_sl (vs.map (fw_v f'))).length := by
      intro f f' vs
      induction vs with
      | nil => rfl
      | cons v vs ih =>
        simp only [lg_sl, List.map_cons, List.flatMap_cons, List.length_append] at ih ⊢
        rw [ih, fw_v_cat, fw_v_cat]
        congr 1
        split <;> rfl
    rw [e1 _ id]; exact hla
  have hlv := lv_entry (a.map (fw_v (fw_ad g))) (n := M.2.2.1) hlen
  rw [lg_entry_eq]
  exact h p l e s m _ below meth c g _ ⟨B.exec, B.bytes, B.returns, hml, hown, fun x hx => hts x (List.mem_cons_of_mem _ hx), hNw, B.notSynchronized, hK, Nat.le_refl _, Nat.le_refl _, Nat.le_refl _, Nat.le_refl _⟩ ⟨_, rfl, (name_of_methodNamed B.named B.method).1⟩ ⟨⟨fun _ _ => rfl, fun k h1 h2 => absurd h2 (Nat.not_lt.mpr h1), Nat.le_refl _⟩, hg, hP, va_S.rf, hwf⟩ hlv
/-- and its end -/
theorem fx_ret {w' : fw_S} (C : fa_C M d mc ms p R s m args meth c g0) (Z : fa_Z g0 N0 s ad w H locs) (hr : M.2.2.2 = none) (hd : decode M.2.1 pc = .ok (.return_, 1)) (hw : w = w') (h1 : cells ≤ mc) (h2 : slots ≤ ms) : W p l e R s m args below meth c H locs cells slots (MQ below (fa_Q g0 N0 w' s.heap.size) args s mc ms (fw_A g0 N0 s.heap.size)) (F0 m pc ls []) := by
  subst hw
  have hlk := C.2.2.2.2.2.2.2.1
  refine W.widen h1 h2 ?_
  exact W.vret C.1 C.2.1 (C.2.2.1.trans hr) (fun t ht hW => ⟨rfl, ⟨ad, Z.1, Z.2.1, by rw [ht]; exact Z.2.2.1⟩, Z.2.2.2.1.F ht⟩) Z.2.2.2.1.2.2 hd hlk
theorem fx_obj (C : fa_C M d mc ms p R s m args meth c g0) {idx q : Nat} (hd : decode M.2.1 pc = .ok (.invokespecial idx, 3)) (h1 : Cond.methodLink M.1.cls idx Lib.objectInit ∈ okW) (h2 : Cond.instanceMethod Lib.objectInit ∈ okW) (h3 : Cond.code Lib.objectInit ⟨#[0xb1]⟩ 1 none ∈ okW) (hls : ls.size = M.2.2.1) (hcr : fw_cat rest ≤ 8) (hdd : 1 ≤ d) (kk : W p l e R s m args below meth c H locs cells slots Q (F0 m (pc + 3) ls rest)) : W p l e R s m args below meth c H locs cells slots Q (F0 m pc ls (.ref q :: rest)) := by
  have hts := C.2.2.2.2.2.1
  have r1 := C.2.2.2.2.2.2.2.2.2.1
  have r2 := C.2.2.2.2.2.2.2.2.2.2.1
  exact W.objInit C.1 C.2.1 C.2.2.2.2.1 (hts _ h1) (hts _ h2) (hts _ h3) rfl (by rw [C.2.2.2.1]; exact hls) rfl hd (by omega) (by show 2 * 0 + fw_cat rest + 12 ≤ _; omega) kk
end FX2
