/-! determinants: mathematics -/
def sumTo (f : Nat → Int) (C : Nat) : Nat → Int
  | 0 => 0
  | m + 1 => sumTo f C m + (if C.testBit m = true then f m else 0)
theorem sumTo_s (f : Nat → Int) (C m : Nat) : sumTo f C (m + 1) = sumTo f C m + (if C.testBit m = true then f m else 0) := rfl
def sumL (f : Nat → Int) : List Nat → Int
  | [] => 0
  | x :: l => f x + sumL f l
theorem sumL_app (f : Nat → Int) : ∀ a b : List Nat, sumL f (a ++ b) = sumL f a + sumL f b
  | [], b => by simp [sumL]
  | x :: a, b => by simp [sumL, sumL_app f a b, Int.add_assoc]
theorem sumTo_L (f : Nat → Int) (C : Nat) : ∀ m, sumTo f C m = sumL f ((List.range m).filter (fun c => C.testBit c))
  | 0 => rfl
  | m + 1 => by
    rw [sumTo_s, List.range_succ, List.filter_append, sumL_app, sumTo_L f C m]
    cases h : C.testBit m <;> simp [h, sumL]
theorem sumL_map (f : Nat → Int) (g : Nat → Nat) : ∀ l, sumL f (l.map g) = sumL (fun c => f (g c)) l
  | [] => rfl
  | x :: l => by simp [sumL, sumL_map f g l]
theorem sumL_cg {f g : Nat → Int} : ∀ {l : List Nat}, (∀ x ∈ l, f x = g x) → sumL f l = sumL g l
  | [], _ => rfl
  | x :: l, h => by
    rw [sumL, sumL, h x List.mem_cons_self, sumL_cg (fun y hy => h y (List.mem_cons_of_mem _ hy))]
theorem sumTo_top {f : Nat → Int} {C : Nat} : ∀ {m k : Nat}, m ≤ k → C < 2 ^ m → sumTo f C k = sumTo f C m := by
  intro m k hk hC
  obtain ⟨j, rfl⟩ : ∃ j, k = m + j := ⟨k - m, by omega⟩
  clear hk
  induction j with
  | zero => rfl
  | succ j ih =>
    rw [show m + (j + 1) = (m + j) + 1 by omega, sumTo_s, ih]
    have h1 : C < 2 ^ (m + j) := Nat.lt_of_lt_of_le hC (Nat.pow_le_pow_right (by decide) (by omega))
    rw [Nat.testBit_lt_two_pow h1]
    simp
def sg (C c : Nat) : Int := if popc (C / 2 ^ (c + 1)) % 2 = 1 then -1 else 1
/-- the determinant of the first k rows and of the columns of C -/
def DC (G : Nat → Nat → Int) (row : Nat → Nat) : Nat → Nat → Int
  | 0, _ => 1
  | k + 1, C => sumTo (fun c => sg C c * (G (row k) c * DC G row k (C - 2 ^ c))) C 5
theorem DC_s (G : Nat → Nat → Int) (row : Nat → Nat) (k C : Nat) : DC G row (k + 1) C = sumTo (fun c => sg C c * (G (row k) c * DC G row k (C - 2 ^ c))) C 5 := rfl
/-- the k-th member of a set (0: the first) -/
def mrow (rows k : Nat) : Nat := ((List.range 6).filter (fun c => rows.testBit c)).getD k 0
/-- the members of rows whose numbers are in K -/
def phi (rows K : Nat) : Nat := (List.range 5).foldl (fun a c => if K.testBit c = true then a + 2 ^ mrow rows c else a) 0
theorem phi_A : ∀ rows : Nat, rows < 32 → ∀ K : Nat, K < 32 → K < 2 ^ popc rows → (List.range 5).filter (fun c => (phi rows K).testBit c) = ((List.range 5).filter (fun c => K.testBit c)).map (mrow rows) := by decide +kernel
theorem phi_B : ∀ rows : Nat, rows < 32 → ∀ K : Nat, K < 32 → K < 2 ^ popc rows → ∀ c : Nat, c < 5 → K.testBit c = true → popc (phi rows K / 2 ^ (mrow rows c + 1)) % 2 = popc (K / 2 ^ (c + 1)) % 2 := by decide +kernel
theorem phi_C : ∀ rows : Nat, rows < 32 → ∀ K : Nat, K < 32 → K < 2 ^ popc rows → ∀ c : Nat, c < 5 → K.testBit c = true → phi rows K - 2 ^ mrow rows c = phi rows (K - 2 ^ c) := by decide +kernel
theorem phi_D : ∀ rows : Nat, rows < 32 → phi rows (2 ^ popc rows - 1) = rows ∧ popc rows ≤ 5 := by decide +kernel
theorem DC_phi (G : Nat → Nat → Int) {rows : Nat} (hr : rows < 32) : ∀ k K : Nat, K < 32 → K < 2 ^ popc rows → DC (fun a b => G (mrow rows a) (mrow rows b)) (fun a => a) k K = DC G (mrow rows) k (phi rows K)
  | 0, _, _, _ => rfl
  | k + 1, K, h1, h2 => by
    rw [DC_s, DC_s, sumTo_L, sumTo_L, phi_A rows hr K h1 h2, sumL_map]
    apply sumL_cg
    intro c hc
    rw [List.mem_filter, List.mem_range] at hc
    have h3 := phi_B rows hr K h1 h2 c hc.1 hc.2
    have h4 := phi_C rows hr K h1 h2 c hc.1 hc.2
    have ih := DC_phi G hr k (K - 2 ^ c) (Nat.lt_of_le_of_lt (Nat.sub_le _ _) h1) (Nat.lt_of_le_of_lt (Nat.sub_le _ _) h2)
    unfold sg
    rw [h3, h4, ih]
/-- g(r + 1, c + 1) -/
def gD (D : Nat → Nat → Int) (r c : Nat) : Int := D 0 (r + 1) * D 0 (r + 1) + D 0 (c + 1) * D 0 (c + 1) - D (r + 1) (c + 1) * D (r + 1) (c + 1)
/-- the determinant of rows and columns of the set -/
def dtS (D : Nat → Nat → Int) (rows : Nat) : Int := DC (gD D) (mrow rows) (popc rows) rows
theorem mr_1 : ∀ s : Nat, s < 64 → ∀ m : Nat, m < 6 → s.testBit m = true → mrow s (bitsN s (m + 1) - 1) = m := by decide +kernel
theorem mr_2 : ∀ s : Nat, s < 64 → ∀ k : Nat, k < 7 → 1 ≤ k → k ≤ popc s → ∃ m : Nat, m < 6 ∧ s.testBit m = true ∧ bitsN s (m + 1) = k := by decide +kernel
theorem mr_3 : ∀ s : Nat, s < 32 → ∀ k : Nat, k < 5 → k < popc s → s.testBit (mrow s k) = true ∧ mrow s k < 5 := by decide +kernel
theorem ix_1 : ∀ r : Nat, r < 64 → iI r ^^^ iI (-1) = iI (-(r : Int) - 1) := by decide +kernel
theorem ia_1 : ∀ c : Nat, c < 64 → ∀ r : Nat, r < 64 → iI c &&& iI (-(r : Int) - 1) = iI ((c - (c &&& r) : Nat) : Int) := by decide +kernel
theorem ia_2 : ∀ c : Nat, c < 64 → ∀ k : Nat, k < 6 → c.testBit k = true → c - (c &&& 2 ^ k) = c - 2 ^ k := by decide +kernel
theorem sub_0 : ∀ c : Nat, c < 32 → ∀ r : Nat, r < 32 → c - (c &&& r) = 0 → popc c ≤ popc r := by decide +kernel
theorem sub_1 : ∀ c : Nat, c < 32 → ∀ r : Nat, r < 32 → ∀ k : Nat, k < 5 → c - (c &&& r) = 0 → c.testBit k = true → (c - 2 ^ k) - ((c - 2 ^ k) &&& r) = 0 := by decide +kernel
theorem sub_2 : ∀ c : Nat, c < 32 → ∀ k : Nat, k < 5 → c.testBit k = true → popc (c - 2 ^ k) + 1 = popc c := by decide +kernel
theorem tb_le {c k : Nat} (h : c.testBit k = true) : 2 ^ k ≤ c := Nat.ge_two_pow_of_testBit h
