/-! arrays and calls -/
def fw_u (f : Nat → Int) (k : Nat) (v : Int) : Nat → Int := fun j => if j = k then v else f j
theorem fw_u_self (f : Nat → Int) (k : Nat) (v : Int) : fw_u f k v k = v := by simp [fw_u]
theorem fw_u_ne (f : Nat → Int) {k j : Nat} (v : Int) (h : j ≠ k) : fw_u f k v j = f j := by simp [fw_u, h]
theorem iI_nat (n : Nat) : iI (n : Int) = nI n := by
  unfold iI nI
  exact Int32.ofInt_eq_ofNat
theorem iI_cl {j n : Nat} (h : j < n) (hn : n ≤ 65536) : (iI (j : Int)).toNatClampNeg = j := by
  rw [iI_nat, nI_clamp (by omega)]
theorem iI_vp {j n : Nat} (h : j < n) (hn : n ≤ 65536) : vp_in (iI (j : Int)) n := by
  rw [iI_nat]; exact vp_in_nI h (by omega)
section FA
variable {M : fw_M} {d pc : Nat} {L : List (Option Value)} {S : List Value} {w : fw_S} {r : Option Value} {w' : fw_S}
theorem fr_iald {a n : Nat} {f : Nat → Int} {z : Int} (j : Nat) (hd : decode M.2.1 pc = .ok (.iaload, 1)) (hw : fw_g w a (.inr (n, .inl f))) (hz : z = (j : Int)) (hj : j < n) (hn : n ≤ 65536) (k : fw_R M d (pc + 1) L (.int (iI (f j)) :: S) w r w') : fw_R M d pc L (.int (iI z) :: .ref a :: S) w r w' := by
  intro hN p l e R s m args below meth c g C H locs ls hH hS hl
  subst hz
  refine va_iald C.1 C.2.1 C.2.2.2.2.2.2.2.2.1 hH a 0 (fw_w_get hw) rfl (iI_vp hj hn) hd ?_
  rw [iI_cl hj hn]
  exact k hN p l e R s m args below meth c g C H locs ls hH hS hl
theorem fr_lald {a n : Nat} {f : Nat → Int} {z : Int} (j : Nat) (hd : decode M.2.1 pc = .ok (.laload, 1)) (hw : fw_g w a (.inr (n, .inr f))) (hz : z = (j : Int)) (hj : j < n) (hn : n ≤ 65536) (k : fw_R M d (pc + 1) L (.long (lI (f j)) :: S) w r w') : fw_R M d pc L (.int (iI z) :: .ref a :: S) w r w' := by
  intro hN p l e R s m args below meth c g C H locs ls hH hS hl
  subst hz
  refine va_lald C.1 C.2.1 C.2.2.2.2.2.2.2.2.1 hH a 1 (fw_w_get hw) rfl (iI_vp hj hn) hd ?_
  rw [iI_cl hj hn]
  exact k hN p l e R s m args below meth c g C H locs ls hH hS hl
theorem fr_iast {a n : Nat} {f : Nat → Int} {z v : Int} (j : Nat) (hd : decode M.2.1 pc = .ok (.iastore, 1)) (hw : fw_g w a (.inr (n, .inl f))) (hz : z = (j : Int)) (hj : j < n) (hn : n ≤ 65536) (k : fw_R M d (pc + 1) L S (fw_up w a (.inr (n, .inl (fw_u f j v)))) r w') : fw_R M d pc L (.int (iI v) :: .int (iI z) :: .ref a :: S) w r w' := by
  intro hN p l e R s m args below meth c g C H locs ls hH hS hl
  subst hz
  refine va_iast C.1 C.2.1 C.2.2.2.2.2.2.2.2.1 hH (fw_D C.2.2.2.2.2.2.2.2.2.1) hS a 0 (fw_w_get hw) rfl (iI_vp hj hn) hd (fun H1 locs1 hP hD hS1 => ?_)
  rw [iI_cl hj hn] at hP
  have e1 : upd (fun j => iI (f j)) j (iI v) = fun i => iI (fw_u f j v i) := by
    funext i
    by_cases hi : i = j
    · subst hi; rw [pk_us, fw_u_self]
    · rw [pk_un hi, fw_u_ne _ _ hi]
  rw [e1] at hP
  have e2 := fw_w_set (g := g) (w := w) (k := a) (e := .inr (n, .inl (fw_u f j v))) hw.1
  exact k hN p l e R s m args below meth c g C H1 locs1 ls (by rw [fw_H, ← e2]; exact hP) hS1 hl
theorem fr_last {a n : Nat} {f : Nat → Int} {z v : Int} (j : Nat) (hd : decode M.2.1 pc = .ok (.lastore, 1)) (hw : fw_g w a (.inr (n, .inr f))) (hz : z = (j : Int)) (hj : j < n) (hn : n ≤ 65536) (k : fw_R M d (pc + 1) L S (fw_up w a (.inr (n, .inr (fw_u f j v)))) r w') : fw_R M d pc L (.long (lI v) :: .int (iI z) :: .ref a :: S) w r w' := by
  intro hN p l e R s m args below meth c g C H locs ls hH hS hl
  subst hz
  refine va_last C.1 C.2.1 C.2.2.2.2.2.2.2.2.1 hH (fw_D C.2.2.2.2.2.2.2.2.2.1) hS a 1 (fw_w_get hw) rfl (iI_vp hj hn) hd (fun H1 locs1 hP hD hS1 => ?_)
  rw [iI_cl hj hn] at hP
  have e1 : vp_updL (fun j => lI (f j)) j (lI v) = fun i => lI (fw_u f j v i) := by
    funext i
    by_cases hi : i = j
    · subst hi; rw [pk_uLs, fw_u_self]
    · rw [pk_uLn hi, fw_u_ne _ _ hi]
  rw [e1] at hP
  have e2 := fw_w_set (g := g) (w := w) (k := a) (e := .inr (n, .inr (fw_u f j v))) hw.1
  exact k hN p l e R s m args below meth c g C H1 locs1 ls (by rw [fw_H, ← e2]; exact hP) hS1 hl
theorem fr_alen {a n : Nat} {f : Nat → Int} (hd : decode M.2.1 pc = .ok (.arraylength, 1)) (hw : fw_g w a (.inr (n, .inl f))) (k : fw_R M d (pc + 1) L (.int (iI n) :: S) w r w') : fw_R M d pc L (.ref a :: S) w r w' := by
  intro hN p l e R s m args below meth c g C H locs ls hH hS hl
  exact va_alen C.1 C.2.1 C.2.2.2.2.2.2.2.2.1 hH a 0 (fw_w_get hw) rfl (iI_nat n).symm hd (k hN p l e R s m args below meth c g C H locs ls hH hS hl)
end FA
theorem fw_nest_warm {x : Cond} (hx : x ∈ fw_nest) {s U : State} (hW : s.WarmedH U.vm) (h : va_Nw x s) : va_Nw x U := by
  have h2 := (List.mem_filter.mp hx).2
  cases x <;> first | exact va_Nw.warmF hW h | exact va_Nw.warmM hW h | exact absurd h2 (by simp [fw_isN])
theorem fw_nest_tabs {x : Cond} (hx : x ∈ fw_nest) : x.onTables = true := by
  have h2 := (List.mem_filter.mp hx).2
  cases x <;> first | rfl | exact absurd h2 (by simp [fw_isN])
def fw_B (g : fw_G) (w : fw_S) (sz : Nat) (U : State) : Prop := U.heap.size = sz ∧ fw_H g w U.heap ∧ va_K g.1 vwCl (fw_ty g) U ∧ ∀ x ∈ fw_nest, va_Nw x U
theorem fw_blind {g : fw_G} {w : fw_S} {sz : Nat} {a : List Value} : FrameBlind (va_Pc a (fw_B g w sz)) := by
  intro v U f mk h
  obtain ⟨h1, h2, h3, h4, h5⟩ := h
  exact ⟨h1, h2, h3, va_K.moved (u := U) (U := U.calling f mk v) (Vm.Alike.refl U.vm) h4, fun x hx => va_Nw.same (u := U) (U := U.calling f mk v) (fw_nest_tabs hx) rfl (h5 x hx)⟩
section FCALL
variable {p : Program} {l : Launch} {e : Env} {R : Room} {s : State} {m : MethodId} {args : Array Value} {below : List Frame} {meth : Method} {c : Code} {H : Heap} {locs : List Loc} {cells slots : Nat} {Q : State → Prop}
theorem fw_after {g : fw_G} {w w1 : fw_S} {r1 : Option Value} {pc : Nat} {ls : Array Slot} {st0 rest : List Value} {a : Array Value} (hr : va_Run p l e R s m args below meth c H locs cells slots 0 0 (F0 m pc ls st0) rest (fw_Q g r1 w1 H.size a) (fw_A g w.1 H.size)) (hN1 : w1.1 = w.1) (hS : va_S (fw_A g w.1 s.heap.size) s.heap H locs)
    (kk : ∀ (H1 : Heap) (locs1 : List Loc), fw_H g w1 H1 → va_S (fw_A g w.1 s.heap.size) s.heap H1 locs1 → W p l e R s m args below meth c H1 locs1 cells slots Q (F0 m (pc + 3) ls ((r1.map (fw_v (fw_ad g))).toList ++ rest))) : W p l e R s m args below meth c H locs cells slots Q (F0 m pc ls st0) := by
  intro T hT X
  obtain ⟨v, st₀, t, T', L, h0, X', hL, e1, e2, ⟨hv, hH1, hz, hk⟩, st⟩ := hr T hT X
  cases hv
  rw [h0, hN1] at hk
  rw [h0] at hz
  have hA : ∀ q, fw_A g w.1 H.size q → fw_A g w.1 s.heap.size q := fun q hq => by
    rcases hq with h | h
    · exact Or.inl h
    · exact Or.inr (Nat.le_trans hS.1 h)
  obtain ⟨t2, a1, b1⟩ := kk T'.heap (locs ++ L) (by rw [e1]; exact hH1) ⟨Nat.le_trans hS.1 (by rw [e1]; exact hz), fun q h1 h2 => by
      rw [e1, hk q (Nat.lt_of_lt_of_le h1 hS.1) (fun z => h2 (hA q z))]
      exact hS.2.1 q h1 h2, fun q hq => by
      rcases List.mem_append.mp hq with h | h
      · exact hS.2.2 q h
      · exact hA _ (hL q h)⟩ T' rfl X'
  exact ⟨t2, st t2 a1, b1⟩
end FCALL
def fk_V (M Mc : fw_M) (pc ci n : Nat) : Prop := ∃ (index : Nat) (host : String) (T : u_T) (N : Nat), decode M.2.1 pc = .ok (.invokevirtual index, 3) ∧ vwCl[ci]? = some (Mc.1.cls, T, N) ∧ (Cond.methodLink M.1.cls index Mc.1 ∈ okW ∨ Cond.methodLinkNest M.1.cls index Mc.1 host ∈ fw_nest) ∧ Cond.instanceMethod Mc.1 ∈ okW ∧ Cond.selects Mc.1.cls Mc.1 Mc.1 ∈ okW ∧ Cond.initialized Mc.1.cls ∈ okW ∧ Cond.code Mc.1 Mc.2.1 Mc.2.2.1 Mc.2.2.2 ∈ okW ∧ (Mc.1.cls ≠ "java/lang/invoke/MethodHandle" ∧ Mc.1.cls ≠ "java/lang/invoke/VarHandle" ∧ (parseMethodDescriptor Mc.1.desc).map (fun d => d.parameters.length) = some n) ∧ Mc.2.2.1 ≤ 45
def fk_S (M Mc : fw_M) (pc n : Nat) : Prop := ∃ (index : Nat) (host : String), decode M.2.1 pc = .ok (.invokestatic index, 3) ∧ (Cond.methodLink M.1.cls index Mc.1 ∈ okW ∨ Cond.methodLinkNest M.1.cls index Mc.1 host ∈ fw_nest) ∧ Cond.static Mc.1 ∈ okW ∧ Cond.initialized Mc.1.cls ∈ okW ∧ Cond.code Mc.1 Mc.2.1 Mc.2.2.1 Mc.2.2.2 ∈ okW ∧ (Mc.1.cls ≠ "java/lang/invoke/MethodHandle" ∧ Mc.1.cls ≠ "java/lang/invoke/VarHandle" ∧ (parseMethodDescriptor Mc.1.desc).map (fun d => d.parameters.length) = some n) ∧ Mc.2.2.1 ≤ 45
def fw_cat (S : List Value) : Nat := (S.map fun v => v.category).sum
theorem fw_cat_map (ad : Nat → Nat) (S : List Value) : ((S.map (fw_v ad)).map fun v => v.category).sum = fw_cat S := by
  unfold fw_cat
  rw [List.map_map]
  congr 1
  exact List.map_congr_left (fun v _ => fw_v_cat ad v)
theorem fw_goodW {Mc : fw_M} {s : State} {args : Array Value} (hts : ∀ w ∈ okW, w.before args s = true) (hcode : Cond.code Mc.1 Mc.2.1 Mc.2.2.1 Mc.2.2.2 ∈ okW) : GoodIn okW (fw_ws Mc) := by
  intro x hx
  rcases List.mem_cons.mp hx with rfl | h
  · exact ⟨hcode, good_of_word (okW_good hcode)⟩
  · exact ⟨h, good_of_word (okW_good h)⟩
section FK
variable {M : fw_M} {d pc : Nat} {L : List (Option Value)} {S S0 : List Value} {w w1 : fw_S} {r : Option Value} {w' : fw_S}
theorem fr_callV {Mc : fw_M} {dc ci n o : Nat} {As : List Value} {fs : List Value} {r1 : Option Value} (hf : fk_V M Mc pc ci n) (hK : fw_K dc Mc (.ref o :: As) w r1 w1) (hdc : dc + 1 ≤ d) (hw : fw_g w o (.inl (ci, fs))) (hn : As.length = n) (hs : S = As.reverse ++ .ref o :: S0) (hc : Nat.ble (fw_cat S0) 8 = true) (kk : fw_R M d (pc + 3) L (r1.toList ++ S0) w1 r w') : fw_R M d pc L S w r w' := by
  intro hN p l e R s m args below meth c g C H locs ls hH hS hl
  subst hs
  obtain ⟨index, host, T0, N0, hd, hci, hlk, hin, hsel, hini, hcode, hdd, hml⟩ := hf
  obtain ⟨hN1, hM⟩ := hK
  have hMet := hM l g H.size C.2.2.2.2.2.2.2.2.2.1
  have hts := C.2.2.2.2.2.1
  have hG := fw_goodW hts hcode
  have hfx : CallFix p m c M.2.1 M.2.2.1 s args okW M.1.cls := ⟨C.1, C.2.1, C.2.2.2.1, C.2.2.2.2.1, hts⟩
  have hKs := C.2.2.2.2.2.2.2.2.1
  have hR : (fw_rm dc).frames + 1 ≤ R.frames ∧ 8 + (Mc.2.2.1 + 11) + (fw_rm dc).locals ≤ R.locals := by
    have h1 := C.2.2.2.2.2.2.2.2.2.2.1
    have h2 := C.2.2.2.2.2.2.2.2.2.2.2
    refine ⟨Nat.le_trans hdc h1, ?_⟩
    show 8 + (Mc.2.2.1 + 11) + 64 * dc ≤ R.locals
    omega
  have hpre : PreV s H Mc.1.cls (fw_ad g o) (va_Pc ((Value.ref o :: As).map (fw_v (fw_ad g))) (fw_B g w H.size)) (As.map (fw_v (fw_ad g))) := by
    refine ⟨fw_blind, va_recv hKs hH hci (fw_w_get hw), fun U hU hW => ⟨rfl, by rw [hU], by rw [hU]; exact hH, va_K.moved hW.alike hKs, fun x hx => fw_nest_warm hx hW (C.2.2.2.2.2.2.1 x hx)⟩⟩
  have hstk : (As.reverse ++ .ref o :: S0).map (fw_v (fw_ad g)) = (As.map (fw_v (fw_ad g))).reverse ++ .ref (fw_ad g o) :: S0.map (fw_v (fw_ad g)) := by
    rw [List.map_append, List.map_reverse]; rfl
  have hcat : 2 * 0 + ((S0.map (fw_v (fw_ad g))).map fun v => v.category).sum ≤ 8 := by rw [fw_cat_map]; have := Nat.le_of_ble_eq_true hc; omega
  have hgoal : ∀ H1 locs1, fw_H g w1 H1 → va_S (fw_A g w.1 s.heap.size) s.heap H1 locs1 → W p l e R s m args below meth c H1 locs1 0 0 (MQ below (fw_Q g r w' s.heap.size) args s 0 0 (fw_A g w.1 s.heap.size)) (F0 m (pc + 3) ls ((r1.map (fw_v (fw_ad g))).toList ++ S0.map (fw_v (fw_ad g)))) := by
    intro H1 locs1 h1 h2
    have h3 := kk (by rw [hN, hN1]) p l e R s m args below meth c g (by rw [hN1]; exact C) H1 locs1 ls h1 (by rw [hN1]; exact h2) hl
    rw [hN1, List.map_append] at h3
    have e1 : r1.toList.map (fw_v (fw_ad g)) = (r1.map (fw_v (fw_ad g))).toList := by cases r1 <;> rfl
    rw [e1] at h3
    exact h3
  rw [hstk]
  rcases hlk with h | h
  · exact fw_after (va_runV (n := n) hfx hMet (cwV n hts (fun x hx => by
      unfold wsV at hx
      rcases List.mem_append.mp hx with h1 | h1
      · have : x ∈ okW := by
          simp only [List.mem_cons, List.not_mem_nil, or_false] at h1
          rcases h1 with rfl | rfl | rfl | rfl
          · exact h
          · exact hin
          · exact hsel
          · exact hini
        exact ⟨this, good_of_word (okW_good this)⟩
      · exact hG x h1) rfl rfl rfl ⟨rfl, hdd⟩ hR) hpre rfl (by simpa using hn) hl.1 rfl hcat hd ⟨Nat.zero_le _, Nat.zero_le _⟩) hN1 hS hgoal
  · exact fw_after (va_runVN (n := n) (host := host) hfx hMet ⟨va_cnB n hts hG rfl rfl rfl (C.2.2.2.2.2.2.1 _ h) (hts _ hini) hdd hR, hts _ hin, hts _ hsel⟩ hpre rfl (by simpa using hn) hl.1 rfl hcat hd ⟨Nat.zero_le _, Nat.zero_le _⟩) hN1 hS hgoal
theorem fr_callS {Mc : fw_M} {dc n : Nat} {As : List Value} {r1 : Option Value} (hf : fk_S M Mc pc n) (hK : fw_K dc Mc As w r1 w1) (hdc : dc + 1 ≤ d) (hn : As.length = n) (hs : S = As.reverse ++ S0) (hc : Nat.ble (fw_cat S0) 8 = true) (kk : fw_R M d (pc + 3) L (r1.toList ++ S0) w1 r w') : fw_R M d pc L S w r w' := by
  intro hN p l e R s m args below meth c g C H locs ls hH hS hl
  subst hs
  obtain ⟨index, host, hd, hlk, hst, hini, hcode, hdd, hml⟩ := hf
  obtain ⟨hN1, hM⟩ := hK
  have hMet := hM l g H.size C.2.2.2.2.2.2.2.2.2.1
  have hts := C.2.2.2.2.2.1
  have hG := fw_goodW hts hcode
  have hfx : CallFix p m c M.2.1 M.2.2.1 s args okW M.1.cls := ⟨C.1, C.2.1, C.2.2.2.1, C.2.2.2.2.1, hts⟩
  have hKs := C.2.2.2.2.2.2.2.2.1
  have hR : (fw_rm dc).frames + 1 ≤ R.frames ∧ 8 + (Mc.2.2.1 + 11) + (fw_rm dc).locals ≤ R.locals := by
    have h1 := C.2.2.2.2.2.2.2.2.2.2.1
    have h2 := C.2.2.2.2.2.2.2.2.2.2.2
    refine ⟨Nat.le_trans hdc h1, ?_⟩
    show 8 + (Mc.2.2.1 + 11) + 64 * dc ≤ R.locals
    omega
  have hpre : PreS s H (va_Pc (As.map (fw_v (fw_ad g))) (fw_B g w H.size)) (As.map (fw_v (fw_ad g))) := by
    refine ⟨fw_blind, fun U hU hW => ⟨rfl, by rw [hU], by rw [hU]; exact hH, va_K.moved hW.alike hKs, fun x hx => fw_nest_warm hx hW (C.2.2.2.2.2.2.1 x hx)⟩⟩
  have hstk : (As.reverse ++ S0).map (fw_v (fw_ad g)) = (As.map (fw_v (fw_ad g))).reverse ++ S0.map (fw_v (fw_ad g)) := by
    rw [List.map_append, List.map_reverse]
  have hcat : 2 * 0 + ((S0.map (fw_v (fw_ad g))).map fun v => v.category).sum ≤ 8 := by rw [fw_cat_map]; have := Nat.le_of_ble_eq_true hc; omega
  have hgoal : ∀ H1 locs1, fw_H g w1 H1 → va_S (fw_A g w.1 s.heap.size) s.heap H1 locs1 → W p l e R s m args below meth c H1 locs1 0 0 (MQ below (fw_Q g r w' s.heap.size) args s 0 0 (fw_A g w.1 s.heap.size)) (F0 m (pc + 3) ls ((r1.map (fw_v (fw_ad g))).toList ++ S0.map (fw_v (fw_ad g)))) := by
    intro H1 locs1 h1 h2
    have h3 := kk (by rw [hN, hN1]) p l e R s m args below meth c g (by rw [hN1]; exact C) H1 locs1 ls h1 (by rw [hN1]; exact h2) hl
    rw [hN1, List.map_append] at h3
    have e1 : r1.toList.map (fw_v (fw_ad g)) = (r1.map (fw_v (fw_ad g))).toList := by cases r1 <;> rfl
    rw [e1] at h3
    exact h3
  rw [hstk]
  rcases hlk with h | h
  · exact fw_after (va_runS (n := n) hfx hMet (va_cwS n hts (fun x hx => by
      unfold va_wsS at hx
      rcases List.mem_append.mp hx with h1 | h1
      · have : x ∈ okW := by
          simp only [List.mem_cons, List.not_mem_nil, or_false] at h1
          rcases h1 with rfl | rfl | rfl
          · exact h
          · exact hst
          · exact hini
        exact ⟨this, good_of_word (okW_good this)⟩
      · exact hG x h1) rfl rfl rfl hdd hR) hpre rfl (by simpa using hn) hl.1 rfl hcat hd ⟨Nat.zero_le _, Nat.zero_le _⟩) hN1 hS hgoal
  · exact fw_after (va_runSN (n := n) (host := host) hfx hMet ⟨va_cnB n hts hG rfl rfl rfl (C.2.2.2.2.2.2.1 _ h) (hts _ hini) hdd hR, hts _ hst, trivial⟩ hpre rfl (by simpa using hn) hl.1 rfl hcat hd ⟨Nat.zero_le _, Nat.zero_le _⟩) hN1 hS hgoal
/-- Math's three, whose own rows the kit has -/
def fk_M (M : fw_M) (pc : Nat) (y : MethodName) (cc : ByteArray) (n : Nat) : Prop := ∃ index : Nat, decode M.2.1 pc = .ok (.invokestatic index, 3) ∧ Cond.methodLink M.1.cls index y ∈ okW ∧ Cond.static y ∈ okW ∧ Cond.initialized "java/lang/Math" ∈ okW ∧ Cond.code y cc n (some .int) ∈ okW
theorem fr_max {a b : Int} (hf : fk_M M pc Lib.Math.max.name Lib.Math.max.code 2) (ha : -2147483648 ≤ a ∧ a ≤ 2147483647) (hb : -2147483648 ≤ b ∧ b ≤ 2147483647) (hc : Nat.ble (fw_cat S0) 8 = true) (hd1 : 1 ≤ d) (kk : fw_R M d (pc + 3) L (.int (iI (max a b)) :: S0) w r w') : fw_R M d pc L (.int (iI b) :: .int (iI a) :: S0) w r w' := by
  intro hN p l e R s m args below meth c g C H locs ls hH hS hl
  obtain ⟨index, hd, h1, h2, h3, h4⟩ := hf
  have hts := C.2.2.2.2.2.1
  have r1 := C.2.2.2.2.2.2.2.2.2.2.1
  have r2 := C.2.2.2.2.2.2.2.2.2.2.2
  refine va_mmax C.1 C.2.1 (C.2.2.2.1.trans hl.1.symm) C.2.2.2.2.1 (hts _ h1) (hts _ h2) (hts _ h3) (hts _ h4) (by omega) (by rw [fw_cat_map]; have := Nat.le_of_ble_eq_true hc; omega) (Nat.zero_le _) (Nat.zero_le _) hd ?_
  have e1 : (if iI a < iI b then iI b else iI a) = iI (max a b) := by
    by_cases h : a < b
    · rw [if_pos ((iI_lt ha hb).mpr h), Int.max_eq_right (by omega)]
    · rw [if_neg (fun q => h ((iI_lt ha hb).mp q)), Int.max_eq_left (by omega)]
  rw [e1]
  exact kk hN p l e R s m args below meth c g C H locs ls hH hS hl
theorem fr_min {a b : Int} (hf : fk_M M pc Lib.Math.min.name Lib.Math.min.code 2) (ha : -2147483648 ≤ a ∧ a ≤ 2147483647) (hb : -2147483648 ≤ b ∧ b ≤ 2147483647) (hc : Nat.ble (fw_cat S0) 8 = true) (hd1 : 1 ≤ d) (kk : fw_R M d (pc + 3) L (.int (iI (min a b)) :: S0) w r w') : fw_R M d pc L (.int (iI b) :: .int (iI a) :: S0) w r w' := by
  intro hN p l e R s m args below meth c g C H locs ls hH hS hl
  obtain ⟨index, hd, h1, h2, h3, h4⟩ := hf
  have hts := C.2.2.2.2.2.1
  have r1 := C.2.2.2.2.2.2.2.2.2.2.1
  have r2 := C.2.2.2.2.2.2.2.2.2.2.2
  refine va_mmin C.1 C.2.1 (C.2.2.2.1.trans hl.1.symm) C.2.2.2.2.1 (hts _ h1) (hts _ h2) (hts _ h3) (hts _ h4) (by omega) (by rw [fw_cat_map]; have := Nat.le_of_ble_eq_true hc; omega) (Nat.zero_le _) (Nat.zero_le _) hd ?_
  have e1 : (if iI b < iI a then iI b else iI a) = iI (min a b) := by
    by_cases h : b < a
    · rw [if_pos ((iI_lt hb ha).mpr h), Int.min_eq_right (by omega)]
    · rw [if_neg (fun q => h ((iI_lt hb ha).mp q)), Int.min_eq_left (by omega)]
  rw [e1]
  exact kk hN p l e R s m args below meth c g C H locs ls hH hS hl
theorem fr_abs {a : Int} (hf : fk_M M pc Lib.Math.abs.name Lib.Math.abs.code 1) (ha : -2147483648 ≤ a ∧ a ≤ 2147483647) (hc : Nat.ble (fw_cat S0) 8 = true) (hd1 : 1 ≤ d) (kk : fw_R M d (pc + 3) L (.int (iI (a.natAbs : Int)) :: S0) w r w') : fw_R M d pc L (.int (iI a) :: S0) w r w' := by
  intro hN p l e R s m args below meth c g C H locs ls hH hS hl
  obtain ⟨index, hd, h1, h2, h3, h4⟩ := hf
  have hts := C.2.2.2.2.2.1
  have r1 := C.2.2.2.2.2.2.2.2.2.2.1
  have r2 := C.2.2.2.2.2.2.2.2.2.2.2
  refine va_mabs C.1 C.2.1 (C.2.2.2.1.trans hl.1.symm) C.2.2.2.2.1 (hts _ h1) (hts _ h2) (hts _ h3) (hts _ h4) (by omega) (by rw [fw_cat_map]; have := Nat.le_of_ble_eq_true hc; omega) (Nat.zero_le _) (Nat.zero_le _) hd ?_
  have e1 : (if 0 ≤ iI a then iI a else 0 - iI a) = iI (a.natAbs : Int) := by
    show (if iI 0 ≤ iI a then iI a else iI 0 - iI a) = _
    by_cases h : 0 ≤ a
    · rw [if_pos ((iI_le (a := 0) (by decide) ha).mpr h), show ((a.natAbs : Nat) : Int) = a by omega]
    · rw [if_neg (fun q => h ((iI_le (a := 0) (by decide) ha).mp q)), iI_sub, show ((a.natAbs : Nat) : Int) = 0 - a by omega]
  rw [e1]
  exact kk hN p l e R s m args below meth c g C H locs ls hH hS hl
end FK
