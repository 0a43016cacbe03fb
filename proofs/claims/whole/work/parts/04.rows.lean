/-! a row an instruction -/
section FR
variable {M : fw_M} {d pc : Nat} {L : List (Option Value)} {S : List Value} {w : fw_S} {r : Option Value} {w' : fw_S}
theorem fw_rng {z : Int} (h : -2147483648 ≤ z ∧ z ≤ 2147483647) : (iI z).toInt = z := by
  unfold iI
  rw [Int32.toInt_ofInt]
  rw [Int.bmod_def]
  have e : ((Int32.size : Nat) : Int) = 4294967296 := rfl
  rw [e]
  omega
theorem iI_eq {a b : Int} (ha : -2147483648 ≤ a ∧ a ≤ 2147483647) (hb : -2147483648 ≤ b ∧ b ≤ 2147483647) : iI a = iI b ↔ a = b := by
  constructor
  · intro h; have := congrArg Int32.toInt h; rwa [fw_rng ha, fw_rng hb] at this
  · intro h; rw [h]
theorem iI_lt {a b : Int} (ha : -2147483648 ≤ a ∧ a ≤ 2147483647) (hb : -2147483648 ≤ b ∧ b ≤ 2147483647) : iI a < iI b ↔ a < b := by
  rw [Int32.lt_iff_toInt_lt, fw_rng ha, fw_rng hb]
theorem iI_le {a b : Int} (ha : -2147483648 ≤ a ∧ a ≤ 2147483647) (hb : -2147483648 ≤ b ∧ b ≤ 2147483647) : iI a ≤ iI b ↔ a ≤ b := by
  rw [Int32.le_iff_toInt_le, fw_rng ha, fw_rng hb]
theorem iI_0 : iI 0 = 0 := rfl
theorem iI_add (a b : Int) : iI a + iI b = iI (a + b) := (Int32.ofInt_add a b).symm
theorem iI_sub (a b : Int) : iI a - iI b = iI (a - b) := (Int32.ofInt_sub a b).symm
theorem iI_mul (a b : Int) : iI a * iI b = iI (a * b) := (Int32.ofInt_mul a b).symm
theorem iI_neg (a : Int) : - iI a = iI (-a) := (Int32.ofInt_neg a).symm
theorem lI_add (a b : Int) : lI a + lI b = lI (a + b) := (Int64.ofInt_add a b).symm
theorem lI_sub (a b : Int) : lI a - lI b = lI (a - b) := (Int64.ofInt_sub a b).symm
theorem lI_mul (a b : Int) : lI a * lI b = lI (a * b) := (Int64.ofInt_mul a b).symm
theorem lI_neg (a : Int) : - lI a = lI (-a) := (Int64.ofInt_neg a).symm
theorem iI_toInt (x : Int32) : iI x.toInt = x := Int32.ofInt_toInt x
theorem lI_toInt (x : Int64) : lI x.toInt = x := Int64.ofInt_toInt x
theorem fr_iconst {n : Int} (hd : decode M.2.1 pc = .ok (.iconst n, 1)) (k : fw_R M d (pc + 1) L (.int (iI n) :: S) w r w') : fw_R M d pc L S w r w' := by
  intro hN p l e R s m args below meth c g C H locs ls hH hS hl
  exact lv_iconst C.1 C.2.1 hd rfl (k hN p l e R s m args below meth c g C H locs ls hH hS hl)
theorem fr_bipush {n : Int} (hd : decode M.2.1 pc = .ok (.bipush n, 2)) (hv : (Int8.ofInt n).toInt32 = iI n) (k : fw_R M d (pc + 2) L (.int (iI n) :: S) w r w') : fw_R M d pc L S w r w' := by
  intro hN p l e R s m args below meth c g C H locs ls hH hS hl
  exact lv_bipush C.1 C.2.1 hd hv (k hN p l e R s m args below meth c g C H locs ls hH hS hl)
theorem fr_sipush {n : Int} (hd : decode M.2.1 pc = .ok (.sipush n, 3)) (hv : (Int16.ofInt n).toInt32 = iI n) (k : fw_R M d (pc + 3) L (.int (iI n) :: S) w r w') : fw_R M d pc L S w r w' := by
  intro hN p l e R s m args below meth c g C H locs ls hH hS hl
  exact lv_sipush C.1 C.2.1 hd hv (k hN p l e R s m args below meth c g C H locs ls hH hS hl)
theorem fr_lconst {n : Fin 2} {z : Int} (hd : decode M.2.1 pc = .ok (.lconst n, 1)) (hv : Int64.ofNat (n : Nat) = lI z) (k : fw_R M d (pc + 1) L (.long (lI z) :: S) w r w') : fw_R M d pc L S w r w' := by
  intro hN p l e R s m args below meth c g C H locs ls hH hS hl
  exact lv_lconst C.1 C.2.1 hd hv (k hN p l e R s m args below meth c g C H locs ls hH hS hl)
theorem fr_iload_n {n : Fin 4} {x : Int32} (hd : decode M.2.1 pc = .ok (.iload_n n, 1)) (hL : L[(n : Nat)]? = some (some (.int x))) (k : fw_R M d (pc + 1) L (.int x :: S) w r w') : fw_R M d pc L S w r w' := by
  intro hN p l e R s m args below meth c g C H locs ls hH hS hl
  exact lv_iload_n C.1 C.2.1 hd rfl (hl.2.2 _ _ hL) (k hN p l e R s m args below meth c g C H locs ls hH hS hl)
theorem fr_iload {n : Nat} {x : Int32} (hd : decode M.2.1 pc = .ok (.iload n, 2)) (hL : L[n]? = some (some (.int x))) (k : fw_R M d (pc + 2) L (.int x :: S) w r w') : fw_R M d pc L S w r w' := by
  intro hN p l e R s m args below meth c g C H locs ls hH hS hl
  exact lv_iload C.1 C.2.1 hd (hl.2.2 _ _ hL) (k hN p l e R s m args below meth c g C H locs ls hH hS hl)
theorem fr_lload_n {n : Fin 4} {x : Int64} (hd : decode M.2.1 pc = .ok (.lload_n n, 1)) (hL : L[(n : Nat)]? = some (some (.long x))) (k : fw_R M d (pc + 1) L (.long x :: S) w r w') : fw_R M d pc L S w r w' := by
  intro hN p l e R s m args below meth c g C H locs ls hH hS hl
  exact lv_lload_n C.1 C.2.1 hd rfl (hl.2.2 _ _ hL) (k hN p l e R s m args below meth c g C H locs ls hH hS hl)
theorem fr_lload {n : Nat} {x : Int64} (hd : decode M.2.1 pc = .ok (.lload n, 2)) (hL : L[n]? = some (some (.long x))) (k : fw_R M d (pc + 2) L (.long x :: S) w r w') : fw_R M d pc L S w r w' := by
  intro hN p l e R s m args below meth c g C H locs ls hH hS hl
  exact lv_lload C.1 C.2.1 hd (hl.2.2 _ _ hL) (k hN p l e R s m args below meth c g C H locs ls hH hS hl)
theorem fr_aload_n {n : Fin 4} {x : Nat} (hd : decode M.2.1 pc = .ok (.aload_n n, 1)) (hL : L[(n : Nat)]? = some (some (.ref x))) (k : fw_R M d (pc + 1) L (.ref x :: S) w r w') : fw_R M d pc L S w r w' := by
  intro hN p l e R s m args below meth c g C H locs ls hH hS hl
  exact lv_aload_n C.1 C.2.1 hd rfl (hl.2.2 _ _ hL) (k hN p l e R s m args below meth c g C H locs ls hH hS hl)
theorem fr_istore_n {n : Fin 4} {i : Nat} {x : Int32} {L' : List (Option Value)} (hd : decode M.2.1 pc = .ok (.istore_n n, 1)) (hi : (n : Nat) = i) (hn : i < M.2.2.1) (hk : fw_nl L i = true) (hL : L.set i (some (.int x)) = L') (k : fw_R M d (pc + 1) L' S w r w') : fw_R M d pc L (.int x :: S) w r w' := by
  intro hN p l e R s m args below meth c g C H locs ls hH hS hl
  subst hL
  exact lv_istore_n (lv := fw_ll (fw_ad g) L) C.1 C.2.1 hd hi (fw_l_has hl) hn rfl (fun ls' hl' => k hN p l e R s m args below meth c g C H locs ls' hH hS (fw_l_set1 (v := .int x) hk hl'))
theorem fr_istore {i : Nat} {x : Int32} {L' : List (Option Value)} (hd : decode M.2.1 pc = .ok (.istore i, 2)) (hn : i < M.2.2.1) (hk : fw_nl L i = true) (hL : L.set i (some (.int x)) = L') (k : fw_R M d (pc + 2) L' S w r w') : fw_R M d pc L (.int x :: S) w r w' := by
  intro hN p l e R s m args below meth c g C H locs ls hH hS hl
  subst hL
  exact lv_istore (lv := fw_ll (fw_ad g) L) C.1 C.2.1 hd (fw_l_has hl) hn rfl (fun ls' hl' => k hN p l e R s m args below meth c g C H locs ls' hH hS (fw_l_set1 (v := .int x) hk hl'))
theorem fr_lstore_n {n : Fin 4} {i : Nat} {x : Int64} {L' : List (Option Value)} (hd : decode M.2.1 pc = .ok (.lstore_n n, 1)) (hi : (n : Nat) = i) (hn : i + 1 < M.2.2.1) (hk : fw_nl L i = true) (hL : (L.set i (some (.long x))).set (i + 1) none = L') (k : fw_R M d (pc + 1) L' S w r w') : fw_R M d pc L (.long x :: S) w r w' := by
  intro hN p l e R s m args below meth c g C H locs ls hH hS hl
  subst hL
  exact lv_lstore_n (lv := fw_ll (fw_ad g) L) C.1 C.2.1 hd hi (fw_l_has hl) hn rfl (fun ls' hl' => k hN p l e R s m args below meth c g C H locs ls' hH hS (fw_l_set2 (v := .long x) hk hl'))
theorem fr_lstore {i : Nat} {x : Int64} {L' : List (Option Value)} (hd : decode M.2.1 pc = .ok (.lstore i, 2)) (hn : i + 1 < M.2.2.1) (hk : fw_nl L i = true) (hL : (L.set i (some (.long x))).set (i + 1) none = L') (k : fw_R M d (pc + 2) L' S w r w') : fw_R M d pc L (.long x :: S) w r w' := by
  intro hN p l e R s m args below meth c g C H locs ls hH hS hl
  subst hL
  exact lv_lstore (lv := fw_ll (fw_ad g) L) C.1 C.2.1 hd (fw_l_has hl) hn rfl (fun ls' hl' => k hN p l e R s m args below meth c g C H locs ls' hH hS (fw_l_set2 (v := .long x) hk hl'))
theorem fr_iinc {i : Nat} {n z : Int} {L' : List (Option Value)} (hd : decode M.2.1 pc = .ok (.iinc i n, 3)) (hv : L[i]? = some (some (.int (iI z)))) (hn : i < M.2.2.1) (hk : fw_nl L i = true) (hL : L.set i (some (.int (iI (z + n)))) = L') (k : fw_R M d (pc + 3) L' S w r w') : fw_R M d pc L S w r w' := by
  intro hN p l e R s m args below meth c g C H locs ls hH hS hl
  subst hL
  obtain ⟨kk, hkk⟩ := List.getElem?_of_mem (fw_ll_mem (ad := fw_ad g) (q := (i, .int (iI z))) |>.mpr ⟨_, hv, rfl⟩)
  exact lv_iinc (lv := fw_ll (fw_ad g) L) (v := iI (z + n)) C.1 C.2.1 hd (fw_l_has hl) hkk (by rw [show Int32.ofInt n = iI n from rfl, iI_add]) hn rfl (fun ls' hl' => k hN p l e R s m args below meth c g C H locs ls' hH hS (fw_l_set1 (v := .int (iI (z + n))) hk hl'))
theorem fr_iadd {a b : Int} (hd : decode M.2.1 pc = .ok (.iadd, 1)) (k : fw_R M d (pc + 1) L (.int (iI (a + b)) :: S) w r w') : fw_R M d pc L (.int (iI b) :: .int (iI a) :: S) w r w' := by
  intro hN p l e R s m args below meth c g C H locs ls hH hS hl
  exact lv_iadd C.1 C.2.1 hd (by rw [iI_add]; exact k hN p l e R s m args below meth c g C H locs ls hH hS hl)
theorem fr_isub {a b : Int} (hd : decode M.2.1 pc = .ok (.isub, 1)) (k : fw_R M d (pc + 1) L (.int (iI (a - b)) :: S) w r w') : fw_R M d pc L (.int (iI b) :: .int (iI a) :: S) w r w' := by
  intro hN p l e R s m args below meth c g C H locs ls hH hS hl
  exact lv_isub C.1 C.2.1 hd (by rw [iI_sub]; exact k hN p l e R s m args below meth c g C H locs ls hH hS hl)
theorem fr_imul {a b : Int} (hd : decode M.2.1 pc = .ok (.imul, 1)) (k : fw_R M d (pc + 1) L (.int (iI (a * b)) :: S) w r w') : fw_R M d pc L (.int (iI b) :: .int (iI a) :: S) w r w' := by
  intro hN p l e R s m args below meth c g C H locs ls hH hS hl
  exact lv_imul C.1 C.2.1 hd (by rw [iI_mul]; exact k hN p l e R s m args below meth c g C H locs ls hH hS hl)
theorem fr_ineg {a : Int} (hd : decode M.2.1 pc = .ok (.ineg, 1)) (k : fw_R M d (pc + 1) L (.int (iI (-a)) :: S) w r w') : fw_R M d pc L (.int (iI a) :: S) w r w' := by
  intro hN p l e R s m args below meth c g C H locs ls hH hS hl
  exact lv_ineg C.1 C.2.1 hd (by rw [iI_neg]; exact k hN p l e R s m args below meth c g C H locs ls hH hS hl)
/-- any answer that is said -/
theorem fr_iand {x y : Int32} (z : Int) (hd : decode M.2.1 pc = .ok (.iand, 1)) (hz : x &&& y = iI z) (k : fw_R M d (pc + 1) L (.int (iI z) :: S) w r w') : fw_R M d pc L (.int y :: .int x :: S) w r w' := by
  intro hN p l e R s m args below meth c g C H locs ls hH hS hl
  exact lv_iand C.1 C.2.1 hd (by rw [hz]; exact k hN p l e R s m args below meth c g C H locs ls hH hS hl)
theorem fr_ior {x y : Int32} (z : Int) (hd : decode M.2.1 pc = .ok (.ior, 1)) (hz : x ||| y = iI z) (k : fw_R M d (pc + 1) L (.int (iI z) :: S) w r w') : fw_R M d pc L (.int y :: .int x :: S) w r w' := by
  intro hN p l e R s m args below meth c g C H locs ls hH hS hl
  exact lv_ior C.1 C.2.1 hd (by rw [hz]; exact k hN p l e R s m args below meth c g C H locs ls hH hS hl)
theorem fr_ixor {x y : Int32} (z : Int) (hd : decode M.2.1 pc = .ok (.ixor, 1)) (hz : x ^^^ y = iI z) (k : fw_R M d (pc + 1) L (.int (iI z) :: S) w r w') : fw_R M d pc L (.int y :: .int x :: S) w r w' := by
  intro hN p l e R s m args below meth c g C H locs ls hH hS hl
  exact lv_ixor C.1 C.2.1 hd (by rw [hz]; exact k hN p l e R s m args below meth c g C H locs ls hH hS hl)
theorem fr_ishl {x y : Int32} (z : Int) (hd : decode M.2.1 pc = .ok (.ishl, 1)) (hz : x <<< (y &&& 31) = iI z) (k : fw_R M d (pc + 1) L (.int (iI z) :: S) w r w') : fw_R M d pc L (.int y :: .int x :: S) w r w' := by
  intro hN p l e R s m args below meth c g C H locs ls hH hS hl
  exact lv_ishl C.1 C.2.1 hd (by rw [hz]; exact k hN p l e R s m args below meth c g C H locs ls hH hS hl)
theorem fr_ishr {x y : Int32} (z : Int) (hd : decode M.2.1 pc = .ok (.ishr, 1)) (hz : x >>> (y &&& 31) = iI z) (k : fw_R M d (pc + 1) L (.int (iI z) :: S) w r w') : fw_R M d pc L (.int y :: .int x :: S) w r w' := by
  intro hN p l e R s m args below meth c g C H locs ls hH hS hl
  exact lv_ishr C.1 C.2.1 hd (by rw [hz]; exact k hN p l e R s m args below meth c g C H locs ls hH hS hl)
theorem fr_iushr {x y v : Int32} (hd : decode M.2.1 pc = .ok (.iushr, 1)) (hz : (x.toUInt32 >>> (y.toUInt32 &&& Int32.toUInt32 31)).toInt32 = v) (k : fw_R M d (pc + 1) L (.int v :: S) w r w') : fw_R M d pc L (.int y :: .int x :: S) w r w' := by
  intro hN p l e R s m args below meth c g C H locs ls hH hS hl
  exact lv_iushr C.1 C.2.1 hd hz (k hN p l e R s m args below meth c g C H locs ls hH hS hl)
theorem iI_div {a b : Int} (ha : -2147483648 < a ∧ a ≤ 2147483647) (hb : -2147483648 ≤ b ∧ b ≤ 2147483647) (h0 : b ≠ 0) : iI a / iI b = iI (a.tdiv b) := by
  rw [← Int32.toInt_inj]
  have h1 : (a.tdiv b).natAbs ≤ a.natAbs := by rw [Int.natAbs_tdiv]; exact Nat.div_le_self _ _
  rw [Int32.toInt_div, fw_rng ⟨by omega, ha.2⟩, fw_rng hb, fw_rng ⟨by omega, by omega⟩]
  rw [Int.bmod_def]
  omega
theorem fr_idiv {a b : Int} (hd : decode M.2.1 pc = .ok (.idiv, 1)) (ha : -2147483648 < a ∧ a ≤ 2147483647) (hb : -2147483648 ≤ b ∧ b ≤ 2147483647) (h0 : b ≠ 0) (k : fw_R M d (pc + 1) L (.int (iI (a.tdiv b)) :: S) w r w') : fw_R M d pc L (.int (iI b) :: .int (iI a) :: S) w r w' := by
  intro hN p l e R s m args below meth c g C H locs ls hH hS hl
  exact lv_idiv C.1 C.2.1 hd (fun h => h0 ((iI_eq hb (by decide)).mp h)) (by rw [iI_div ha hb h0]; exact k hN p l e R s m args below meth c g C H locs ls hH hS hl)
theorem fr_irem {a b : Int} (hd : decode M.2.1 pc = .ok (.irem, 1)) (ha : -2147483648 < a ∧ a ≤ 2147483647) (hb : -2147483648 ≤ b ∧ b ≤ 2147483647) (h0 : b ≠ 0) (k : fw_R M d (pc + 1) L (.int (iI (a.tmod b)) :: S) w r w') : fw_R M d pc L (.int (iI b) :: .int (iI a) :: S) w r w' := by
  intro hN p l e R s m args below meth c g C H locs ls hH hS hl
  refine lv_irem C.1 C.2.1 hd (fun h => h0 ((iI_eq hb (by decide)).mp h)) ?_
  rw [iI_div ha hb h0, iI_mul, iI_sub]
  rw [show a - a.tdiv b * b = a.tmod b by have := Int.tmod_def a b; rw [this, Int.mul_comm]]
  exact k hN p l e R s m args below meth c g C H locs ls hH hS hl
theorem fr_ladd {a b : Int} (hd : decode M.2.1 pc = .ok (.ladd, 1)) (k : fw_R M d (pc + 1) L (.long (lI (a + b)) :: S) w r w') : fw_R M d pc L (.long (lI b) :: .long (lI a) :: S) w r w' := by
  intro hN p l e R s m args below meth c g C H locs ls hH hS hl
  exact lv_ladd C.1 C.2.1 hd (by rw [lI_add]; exact k hN p l e R s m args below meth c g C H locs ls hH hS hl)
theorem fr_lsub {a b : Int} (hd : decode M.2.1 pc = .ok (.lsub, 1)) (k : fw_R M d (pc + 1) L (.long (lI (a - b)) :: S) w r w') : fw_R M d pc L (.long (lI b) :: .long (lI a) :: S) w r w' := by
  intro hN p l e R s m args below meth c g C H locs ls hH hS hl
  exact lv_lsub C.1 C.2.1 hd (by rw [lI_sub]; exact k hN p l e R s m args below meth c g C H locs ls hH hS hl)
theorem fr_lmul {a b : Int} (hd : decode M.2.1 pc = .ok (.lmul, 1)) (k : fw_R M d (pc + 1) L (.long (lI (a * b)) :: S) w r w') : fw_R M d pc L (.long (lI b) :: .long (lI a) :: S) w r w' := by
  intro hN p l e R s m args below meth c g C H locs ls hH hS hl
  exact lv_lmul C.1 C.2.1 hd (by rw [lI_mul]; exact k hN p l e R s m args below meth c g C H locs ls hH hS hl)
theorem fr_lneg {a : Int} (hd : decode M.2.1 pc = .ok (.lneg, 1)) (k : fw_R M d (pc + 1) L (.long (lI (-a)) :: S) w r w') : fw_R M d pc L (.long (lI a) :: S) w r w' := by
  intro hN p l e R s m args below meth c g C H locs ls hH hS hl
  exact lv_lneg C.1 C.2.1 hd (by rw [lI_neg]; exact k hN p l e R s m args below meth c g C H locs ls hH hS hl)
theorem fr_i2l {a : Int} (hd : decode M.2.1 pc = .ok (.i2l, 1)) (ha : -2147483648 ≤ a ∧ a ≤ 2147483647) (k : fw_R M d (pc + 1) L (.long (lI a) :: S) w r w') : fw_R M d pc L (.int (iI a) :: S) w r w' := by
  intro hN p l e R s m args below meth c g C H locs ls hH hS hl
  refine lv_i2l (v := lI a) C.1 C.2.1 hd ?_ (k hN p l e R s m args below meth c g C H locs ls hH hS hl)
  rw [← Int64.toInt_inj, Int32.toInt_toInt64, fw_rng ha]
  unfold lI
  rw [Int64.toInt_ofInt, Int.bmod_def]
  have e : ((Int64.size : Nat) : Int) = 18446744073709551616 := rfl
  rw [e]
  omega
theorem fr_lcmp {x y : Int64} (hd : decode M.2.1 pc = .ok (.lcmp, 1)) (k : fw_R M d (pc + 1) L (.int (lg_cmp x y) :: S) w r w') : fw_R M d pc L (.long y :: .long x :: S) w r w' := by
  intro hN p l e R s m args below meth c g C H locs ls hH hS hl
  exact W.lcmp C.1 C.2.1 hd (k hN p l e R s m args below meth c g C H locs ls hH hS hl)
theorem fr_dup {v : Value} (hd : decode M.2.1 pc = .ok (.dup, 1)) (hv : v.category = 1) (k : fw_R M d (pc + 1) L (v :: v :: S) w r w') : fw_R M d pc L (v :: S) w r w' := by
  intro hN p l e R s m args below meth c g C H locs ls hH hS hl
  exact lv_dup C.1 C.2.1 hd (by rw [fw_v_cat]; exact hv) (k hN p l e R s m args below meth c g C H locs ls hH hS hl)
theorem fr_dup2 {v u : Value} (hd : decode M.2.1 pc = .ok (.dup2, 1)) (hv : v.category = 1) (hu : u.category = 1) (k : fw_R M d (pc + 1) L (v :: u :: v :: u :: S) w r w') : fw_R M d pc L (v :: u :: S) w r w' := by
  intro hN p l e R s m args below meth c g C H locs ls hH hS hl
  exact lv_dup2_11 C.1 C.2.1 hd (by rw [fw_v_cat]; exact hv) (by rw [fw_v_cat]; exact hu) (k hN p l e R s m args below meth c g C H locs ls hH hS hl)
theorem fr_goto {off : Int} {tgt : Nat} (hd : decode M.2.1 pc = .ok (.goto off, 3)) (ht : (pc : Int) + off = (tgt : Int)) (k : fw_R M d tgt L S w r w') : fw_R M d pc L S w r w' := by
  intro hN p l e R s m args below meth c g C H locs ls hH hS hl
  exact lv_goto C.1 C.2.1 hd ht (k hN p l e R s m args below meth c g C H locs ls hH hS hl)
theorem fr_if_eq {a : Int} {off : Int} {tgt : Nat} (hd : decode M.2.1 pc = .ok (.ifCond .eq off, 3)) (ht : (pc : Int) + off = (tgt : Int)) (ha : -2147483648 ≤ a ∧ a ≤ 2147483647) (kt : a = 0 → fw_R M d tgt L S w r w') (kf : a ≠ 0 → fw_R M d (pc + 3) L S w r w') : fw_R M d pc L (.int (iI a) :: S) w r w' := by
  intro hN p l e R s m args below meth c g C H locs ls hH hS hl
  exact lv_if_eq C.1 C.2.1 hd ht (fun h => kt ((iI_eq ha (by decide)).mp h) hN p l e R s m args below meth c g C H locs ls hH hS hl) (fun h => kf (fun q => h (by rw [q]; rfl)) hN p l e R s m args below meth c g C H locs ls hH hS hl)
theorem fr_if_ne {a : Int} {off : Int} {tgt : Nat} (hd : decode M.2.1 pc = .ok (.ifCond .ne off, 3)) (ht : (pc : Int) + off = (tgt : Int)) (ha : -2147483648 ≤ a ∧ a ≤ 2147483647) (kt : a ≠ 0 → fw_R M d tgt L S w r w') (kf : a = 0 → fw_R M d (pc + 3) L S w r w') : fw_R M d pc L (.int (iI a) :: S) w r w' := by
  intro hN p l e R s m args below meth c g C H locs ls hH hS hl
  refine lv_if_ne C.1 C.2.1 hd ht (fun h => kt (fun q => h (by rw [q]; rfl)) hN p l e R s m args below meth c g C H locs ls hH hS hl) (fun h => kf ?_ hN p l e R s m args below meth c g C H locs ls hH hS hl)
  exact (iI_eq ha (by decide)).mp h
theorem fr_if_lt {a : Int} {off : Int} {tgt : Nat} (hd : decode M.2.1 pc = .ok (.ifCond .lt off, 3)) (ht : (pc : Int) + off = (tgt : Int)) (ha : -2147483648 ≤ a ∧ a ≤ 2147483647) (kt : a < 0 → fw_R M d tgt L S w r w') (kf : 0 ≤ a → fw_R M d (pc + 3) L S w r w') : fw_R M d pc L (.int (iI a) :: S) w r w' := by
  intro hN p l e R s m args below meth c g C H locs ls hH hS hl
  exact lv_if_lt C.1 C.2.1 hd ht (fun h => kt ((iI_lt ha (by decide)).mp h) hN p l e R s m args below meth c g C H locs ls hH hS hl) (fun h => kf (Int.not_lt.mp (fun q => h ((iI_lt ha (by decide)).mpr q))) hN p l e R s m args below meth c g C H locs ls hH hS hl)
theorem fr_if_ge {a : Int} {off : Int} {tgt : Nat} (hd : decode M.2.1 pc = .ok (.ifCond .ge off, 3)) (ht : (pc : Int) + off = (tgt : Int)) (ha : -2147483648 ≤ a ∧ a ≤ 2147483647) (kt : 0 ≤ a → fw_R M d tgt L S w r w') (kf : a < 0 → fw_R M d (pc + 3) L S w r w') : fw_R M d pc L (.int (iI a) :: S) w r w' := by
  intro hN p l e R s m args below meth c g C H locs ls hH hS hl
  refine lv_if_ge C.1 C.2.1 hd ht (fun h => kt ?_ hN p l e R s m args below meth c g C H locs ls hH hS hl) (fun h => kf ?_ hN p l e R s m args below meth c g C H locs ls hH hS hl)
  · exact (iI_le (by decide) ha).mp h
  · exact Int.not_le.mp (fun q => h ((iI_le (by decide) ha).mpr q))
theorem fr_if_gt {a : Int} {off : Int} {tgt : Nat} (hd : decode M.2.1 pc = .ok (.ifCond .gt off, 3)) (ht : (pc : Int) + off = (tgt : Int)) (ha : -2147483648 ≤ a ∧ a ≤ 2147483647) (kt : 0 < a → fw_R M d tgt L S w r w') (kf : a ≤ 0 → fw_R M d (pc + 3) L S w r w') : fw_R M d pc L (.int (iI a) :: S) w r w' := by
  intro hN p l e R s m args below meth c g C H locs ls hH hS hl
  refine lv_if_gt C.1 C.2.1 hd ht (fun h => kt ?_ hN p l e R s m args below meth c g C H locs ls hH hS hl) (fun h => kf ?_ hN p l e R s m args below meth c g C H locs ls hH hS hl)
  · exact (iI_lt (by decide) ha).mp h
  · exact Int.not_lt.mp (fun q => h ((iI_lt (by decide) ha).mpr q))
theorem fr_if_le {a : Int} {off : Int} {tgt : Nat} (hd : decode M.2.1 pc = .ok (.ifCond .le off, 3)) (ht : (pc : Int) + off = (tgt : Int)) (ha : -2147483648 ≤ a ∧ a ≤ 2147483647) (kt : a ≤ 0 → fw_R M d tgt L S w r w') (kf : 0 < a → fw_R M d (pc + 3) L S w r w') : fw_R M d pc L (.int (iI a) :: S) w r w' := by
  intro hN p l e R s m args below meth c g C H locs ls hH hS hl
  refine lv_if_le C.1 C.2.1 hd ht (fun h => kt ?_ hN p l e R s m args below meth c g C H locs ls hH hS hl) (fun h => kf ?_ hN p l e R s m args below meth c g C H locs ls hH hS hl)
  · exact (iI_le ha (by decide)).mp h
  · exact Int.not_le.mp (fun q => h ((iI_le ha (by decide)).mpr q))
theorem fr_icmp_eq {a b : Int} {off : Int} {tgt : Nat} (hd : decode M.2.1 pc = .ok (.if_icmp .eq off, 3)) (ht : (pc : Int) + off = (tgt : Int)) (ha : -2147483648 ≤ a ∧ a ≤ 2147483647) (hb : -2147483648 ≤ b ∧ b ≤ 2147483647) (kt : a = b → fw_R M d tgt L S w r w') (kf : a ≠ b → fw_R M d (pc + 3) L S w r w') : fw_R M d pc L (.int (iI b) :: .int (iI a) :: S) w r w' := by
  intro hN p l e R s m args below meth c g C H locs ls hH hS hl
  exact lv_icmp_eq C.1 C.2.1 hd ht (fun h => kt ((iI_eq ha hb).mp h) hN p l e R s m args below meth c g C H locs ls hH hS hl) (fun h => kf (fun q => h ((iI_eq ha hb).mpr q)) hN p l e R s m args below meth c g C H locs ls hH hS hl)
theorem fr_icmp_ne {a b : Int} {off : Int} {tgt : Nat} (hd : decode M.2.1 pc = .ok (.if_icmp .ne off, 3)) (ht : (pc : Int) + off = (tgt : Int)) (ha : -2147483648 ≤ a ∧ a ≤ 2147483647) (hb : -2147483648 ≤ b ∧ b ≤ 2147483647) (kt : a ≠ b → fw_R M d tgt L S w r w') (kf : a = b → fw_R M d (pc + 3) L S w r w') : fw_R M d pc L (.int (iI b) :: .int (iI a) :: S) w r w' := by
  intro hN p l e R s m args below meth c g C H locs ls hH hS hl
  exact lv_icmp_ne C.1 C.2.1 hd ht (fun h => kt (fun q => h ((iI_eq ha hb).mpr q)) hN p l e R s m args below meth c g C H locs ls hH hS hl) (fun h => kf ((iI_eq ha hb).mp h) hN p l e R s m args below meth c g C H locs ls hH hS hl)
theorem fr_icmp_lt {a b : Int} {off : Int} {tgt : Nat} (hd : decode M.2.1 pc = .ok (.if_icmp .lt off, 3)) (ht : (pc : Int) + off = (tgt : Int)) (ha : -2147483648 ≤ a ∧ a ≤ 2147483647) (hb : -2147483648 ≤ b ∧ b ≤ 2147483647) (kt : a < b → fw_R M d tgt L S w r w') (kf : b ≤ a → fw_R M d (pc + 3) L S w r w') : fw_R M d pc L (.int (iI b) :: .int (iI a) :: S) w r w' := by
  intro hN p l e R s m args below meth c g C H locs ls hH hS hl
  exact lv_icmp_lt C.1 C.2.1 hd ht (fun h => kt ((iI_lt ha hb).mp h) hN p l e R s m args below meth c g C H locs ls hH hS hl) (fun h => kf (Int.not_lt.mp (fun q => h ((iI_lt ha hb).mpr q))) hN p l e R s m args below meth c g C H locs ls hH hS hl)
theorem fr_icmp_ge {a b : Int} {off : Int} {tgt : Nat} (hd : decode M.2.1 pc = .ok (.if_icmp .ge off, 3)) (ht : (pc : Int) + off = (tgt : Int)) (ha : -2147483648 ≤ a ∧ a ≤ 2147483647) (hb : -2147483648 ≤ b ∧ b ≤ 2147483647) (kt : b ≤ a → fw_R M d tgt L S w r w') (kf : a < b → fw_R M d (pc + 3) L S w r w') : fw_R M d pc L (.int (iI b) :: .int (iI a) :: S) w r w' := by
  intro hN p l e R s m args below meth c g C H locs ls hH hS hl
  refine lv_icmp_ge C.1 C.2.1 hd ht (fun h => kt ?_ hN p l e R s m args below meth c g C H locs ls hH hS hl) (fun h => kf ?_ hN p l e R s m args below meth c g C H locs ls hH hS hl)
  · exact (iI_le hb ha).mp h
  · exact Int.not_le.mp (fun q => h ((iI_le hb ha).mpr q))
theorem fr_icmp_gt {a b : Int} {off : Int} {tgt : Nat} (hd : decode M.2.1 pc = .ok (.if_icmp .gt off, 3)) (ht : (pc : Int) + off = (tgt : Int)) (ha : -2147483648 ≤ a ∧ a ≤ 2147483647) (hb : -2147483648 ≤ b ∧ b ≤ 2147483647) (kt : b < a → fw_R M d tgt L S w r w') (kf : a ≤ b → fw_R M d (pc + 3) L S w r w') : fw_R M d pc L (.int (iI b) :: .int (iI a) :: S) w r w' := by
  intro hN p l e R s m args below meth c g C H locs ls hH hS hl
  refine lv_icmp_gt C.1 C.2.1 hd ht (fun h => kt ?_ hN p l e R s m args below meth c g C H locs ls hH hS hl) (fun h => kf ?_ hN p l e R s m args below meth c g C H locs ls hH hS hl)
  · exact (iI_lt hb ha).mp h
  · exact Int.not_lt.mp (fun q => h ((iI_lt hb ha).mpr q))
theorem fr_icmp_le {a b : Int} {off : Int} {tgt : Nat} (hd : decode M.2.1 pc = .ok (.if_icmp .le off, 3)) (ht : (pc : Int) + off = (tgt : Int)) (ha : -2147483648 ≤ a ∧ a ≤ 2147483647) (hb : -2147483648 ≤ b ∧ b ≤ 2147483647) (kt : a ≤ b → fw_R M d tgt L S w r w') (kf : b < a → fw_R M d (pc + 3) L S w r w') : fw_R M d pc L (.int (iI b) :: .int (iI a) :: S) w r w' := by
  intro hN p l e R s m args below meth c g C H locs ls hH hS hl
  refine lv_icmp_le C.1 C.2.1 hd ht (fun h => kt ?_ hN p l e R s m args below meth c g C H locs ls hH hS hl) (fun h => kf ?_ hN p l e R s m args below meth c g C H locs ls hH hS hl)
  · exact (iI_le ha hb).mp h
  · exact Int.not_le.mp (fun q => h ((iI_le ha hb).mpr q))
theorem fr_tableIn {a : Int} {dflt lo hi : Int} {offs : Array Int} {len : Nat} {off : Int} {tgt : Nat} (hd : decode M.2.1 pc = .ok (.tableswitch dflt lo hi offs, len)) (ha : -2147483648 ≤ a ∧ a ≤ 2147483647) (h1 : lo ≤ a) (h2 : a ≤ hi) (ho : offs[(a - lo).toNat]? = some off) (ht : (pc : Int) + off = (tgt : Int)) (k : fw_R M d tgt L S w r w') : fw_R M d pc L (.int (iI a) :: S) w r w' := by
  intro hN p l e R s m args below meth c g C H locs ls hH hS hl
  exact lv_tableIn C.1 C.2.1 hd (by rw [fw_rng ha]; omega) (by rw [fw_rng ha]; omega) (by rw [fw_rng ha]; exact ho) ht (k hN p l e R s m args below meth c g C H locs ls hH hS hl)
theorem fr_tableOut {a : Int} {dflt lo hi : Int} {offs : Array Int} {len : Nat} {tgt : Nat} (hd : decode M.2.1 pc = .ok (.tableswitch dflt lo hi offs, len)) (ha : -2147483648 ≤ a ∧ a ≤ 2147483647) (h : a < lo ∨ hi < a) (ht : (pc : Int) + dflt = (tgt : Int)) (k : fw_R M d tgt L S w r w') : fw_R M d pc L (.int (iI a) :: S) w r w' := by
  intro hN p l e R s m args below meth c g C H locs ls hH hS hl
  exact lv_tableOut C.1 C.2.1 hd (by rw [fw_rng ha]; exact h) ht (k hN p l e R s m args below meth c g C H locs ls hH hS hl)
theorem fr_ldcw {index : Nat} {v : Int32} (hd : decode M.2.1 pc = .ok (.ldc_w index, 3)) (hw : Cond.constant M.1.cls index v ∈ okW) (k : fw_R M d (pc + 3) L (.int v :: S) w r w') : fw_R M d pc L S w r w' := by
  intro hN p l e R s m args below meth c g C H locs ls hH hS hl
  exact lv_ldcw C.1 C.2.1 C.2.2.2.2.1 (C.2.2.2.2.2.1 _ hw) hd (k hN p l e R s m args below meth c g C H locs ls hH hS hl)
theorem fr_ldc2 {index : Nat} {v : Int64} (hd : decode M.2.1 pc = .ok (.ldc2_w index, 3)) (hw : Cond.constantLong M.1.cls index v ∈ okW) (k : fw_R M d (pc + 3) L (.long v :: S) w r w') : fw_R M d pc L S w r w' := by
  intro hN p l e R s m args below meth c g C H locs ls hH hS hl
  exact lv_ldc2 C.1 C.2.1 C.2.2.2.2.1 (C.2.2.2.2.2.1 _ hw) hd (k hN p l e R s m args below meth c g C H locs ls hH hS hl)
/-- the ends -/
theorem fr_iret {x : Int32} (hd : decode M.2.1 pc = .ok (.ireturn, 1)) (hr : M.2.2.2 = some .int) (he : some (Value.int x) = r) (hw : w = w') : fw_R M d pc L [.int x] w r w' := by
  subst he; subst hw
  intro hN p l e R s m args below meth c g C H locs ls hH hS hl
  have hlk := C.2.2.2.2.2.2.2.1
  exact W.iret C.1 C.2.1 (C.2.2.1.trans hr) (fun t ht hW => ⟨rfl, by rw [ht]; exact hH, hS.F ht⟩) hS.2.2 hd hlk
theorem fr_zret {x : Int32} (hd : decode M.2.1 pc = .ok (.ireturn, 1)) (hr : M.2.2.2 = some .boolean) (hz : narrow .boolean (.int x) = .int x) (he : some (Value.int x) = r) (hw : w = w') : fw_R M d pc L [.int x] w r w' := by
  subst he; subst hw
  intro hN p l e R s m args below meth c g C H locs ls hH hS hl
  have hlk := C.2.2.2.2.2.2.2.1
  exact W.zret C.1 C.2.1 (C.2.2.1.trans hr) hz (fun t ht hW => ⟨rfl, by rw [ht]; exact hH, hS.F ht⟩) hS.2.2 hd hlk
theorem fr_lret {x : Int64} (hd : decode M.2.1 pc = .ok (.lreturn, 1)) (hr : M.2.2.2 = some .long) (he : some (Value.long x) = r) (hw : w = w') : fw_R M d pc L [.long x] w r w' := by
  subst he; subst hw
  intro hN p l e R s m args below meth c g C H locs ls hH hS hl
  have hlk := C.2.2.2.2.2.2.2.1
  exact W.lret C.1 C.2.1 (C.2.2.1.trans hr) (fun t ht hW => ⟨rfl, by rw [ht]; exact hH, hS.F ht⟩) hS.2.2 hd hlk
theorem fr_vret (hd : decode M.2.1 pc = .ok (.return_, 1)) (hr : M.2.2.2 = none) (he : none = r) (hw : w = w') : fw_R M d pc L [] w r w' := by
  subst he; subst hw
  intro hN p l e R s m args below meth c g C H locs ls hH hS hl
  have hlk := C.2.2.2.2.2.2.2.1
  exact W.vret C.1 C.2.1 (C.2.2.1.trans hr) (fun t ht hW => ⟨rfl, by rw [ht]; exact hH, hS.F ht⟩) hS.2.2 hd hlk
end FR
