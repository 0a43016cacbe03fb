/-! fields, arrays, calls -/
section FC
variable {M : fw_M} {d pc : Nat} {L : List (Option Value)} {S : List Value} {w : fw_S} {r : Option Value} {w' : fw_S}
/-- the field read or written at pc: field k of the class ci -/
def fk_get (M : fw_M) (pc ci k : Nat) (put : Bool) : Prop := ∃ (index : Nat) (C : String) (T : u_T) (N : Nat) (host : String), decode M.2.1 pc = .ok (if put then .putfield index else .getfield index, 3) ∧ vwCl[ci]? = some (C, T, N) ∧ (∀ x ∈ u_ws C T N, x ∈ okW) ∧ k < N ∧ (T k).1 = C ∧ (Cond.fieldLink M.1.cls index C (T k).2.1 (T k).2.2.1 ∈ okW ∨ Cond.fieldLinkNest M.1.cls index C (T k).2.1 (T k).2.2.1 host ∈ fw_nest)
/-- what a store in the field asks besides -/
def fk_put (ci k : Nat) : Prop := ∃ (C : String) (T : u_T) (N : Nat) (ty : Nat → FieldType), vwCl[ci]? = some (C, T, N) ∧ (∀ k, k < N → parseFieldDescriptor (T k).2.2.1 = some (ty k)) ∧ (∀ a, a < N → ∀ b, b < N → a ≠ b → (T a).2.1 ≠ (T b).2.1) ∧ (T k).2.2.2 = false ∧ parseFieldDescriptor (T k).2.2.1 = some .int
theorem fr_get {ci k : Nat} {o : Nat} {fs : List Value} {v : Value} (hf : fk_get M pc ci k false) (hw : fw_g w o (.inl (ci, fs))) (hv : fs[k]? = some v) (kk : fw_R M d (pc + 3) L (v :: S) w r w') : fw_R M d pc L (.ref o :: S) w r w' := by
  intro hN p l e R s m args below meth c g C H locs ls hH hS hl
  obtain ⟨index, C', T, N, host, hd, hc, hin, hk, hT, hlk⟩ := hf
  have he : (fw_w g w)[o]? = some (fw_ad g o, .inr (ci, fs.map (fw_v (fw_ad g)))) := by rw [fw_w_get hw]; rfl
  have hv' : (fs.map (fw_v (fw_ad g)))[k]? = some (fw_v (fw_ad g) v) := by rw [List.getElem?_map, hv]; rfl
  rcases hlk with h | h
  · exact va_get (Ts := okW) C.1 C.2.1 C.2.2.2.2.2.1 hin C.2.2.2.2.1 C.2.2.2.2.2.2.2.2.1 hH o he hc k hk (C.2.2.2.2.2.1 _ h) (fun x hx => by rw [hT] at hx; exact hx) hv' hd (kk hN p l e R s m args below meth c g C H locs ls hH hS hl)
  · exact va_getN (Ts := okW) C.1 C.2.1 C.2.2.2.2.2.1 hin C.2.2.2.2.1 C.2.2.2.2.2.2.2.2.1 hH o he hc k hk (va_Nw.use rfl (C.2.2.2.2.2.2.1 _ h)) (fun x hx => by rw [hT] at hx; exact hx) hv' hd (kk hN p l e R s m args below meth c g C H locs ls hH hS hl)
theorem fr_put {ci k : Nat} {o : Nat} {fs fs' : List Value} {x : Int32} (hf : fk_get M pc ci k true) (hp : fk_put ci k) (hw : fw_g w o (.inl (ci, fs))) (hkl : k < fs.length) (he' : fs.set k (.int x) = fs') (kk : fw_R M d (pc + 3) L S (fw_up w o (.inl (ci, fs'))) r w') : fw_R M d pc L (.int x :: .ref o :: S) w r w' := by
  intro hN p l e R s m args below meth c g C H locs ls hH hS hl
  subst he'
  obtain ⟨index, C', T, N, host, hd, hc, hin, hk, hT, hlk⟩ := hf
  obtain ⟨C2, T2, N2, ty, hc2, hty, hnm, hfin, hdesc⟩ := hp
  cases hc.symm.trans hc2
  have he : (fw_w g w)[o]? = some (fw_ad g o, .inr (ci, fs.map (fw_v (fw_ad g)))) := by rw [fw_w_get hw]; rfl
  have key : ∀ (H1 : Heap) (locs1 : List Loc), va_P g.1 vwCl ((fw_w g w).set o (fw_ad g o, .inr (ci, (fs.map (fw_v (fw_ad g))).set k (.int x)))) H1 → fw_H g (fw_up w o (.inl (ci, fs.set k (.int x)))) H1 := by
    intro H1 locs1 hP
    have e1 : ((fs.map (fw_v (fw_ad g))).set k (.int x)) = (fs.set k (.int x)).map (fw_v (fw_ad g)) := by rw [List.map_set]; rfl
    rw [e1] at hP
    have e2 := fw_w_set (g := g) (w := w) (k := o) (e := .inl (ci, fs.set k (.int x))) hw.1
    rw [fw_H, ← e2]
    exact hP
  rcases hlk with h | h
  · exact va_put (Ts := okW) C.1 C.2.1 C.2.2.2.2.2.1 hin ty hty hnm C.2.2.2.2.1 C.2.2.2.2.2.2.2.2.1 hH (fw_D C.2.2.2.2.2.2.2.2.2.1) hS o he hc k hk (C.2.2.2.2.2.1 _ h) (fun x hx => by rw [hT] at hx; exact hx) hfin hdesc rfl rfl (by simpa using hkl) hd (fun H1 locs1 hP hD hS1 => kk hN p l e R s m args below meth c g C H1 locs1 ls (key H1 locs1 hP) hS1 hl)
  · exact va_putN (Ts := okW) C.1 C.2.1 C.2.2.2.2.2.1 hin ty hty hnm C.2.2.2.2.1 C.2.2.2.2.2.2.2.2.1 hH (fw_D C.2.2.2.2.2.2.2.2.2.1) hS o he hc k hk (va_Nw.use rfl (C.2.2.2.2.2.2.1 _ h)) (fun x hx => by rw [hT] at hx; exact hx) hfin hdesc rfl rfl (by simpa using hkl) hd (fun H1 locs1 hP hD hS1 => kk hN p l e R s m args below meth c g C H1 locs1 ls (key H1 locs1 hP) hS1 hl)
end FC
