/-! the reference: peeled, left -/
/-- what has been gone through of left: the pairs Qp, the triples Qt -/
def brI (n : Nat) (E : Nat → Nat → Int) (cut : Nat) (Qp : Nat → Nat → Prop) (Qt : Nat → Nat → Nat → Prop) (m : Int) : Prop := 0 ≤ m ∧ m ≤ 9999 ∧ (∀ i j k, i < n → j < n → k < n → Qt i j k → 0 ≤ E i k + E k j - E i j) ∧ (∀ i j, i < n → j < n → Qp i j → pt cut i j = true → m ≤ E i j) ∧ (∀ i j k, i < n → j < n → k < n → Qt i j k → pt cut i j = false → pt cut i k = true → m ≤ (E i k + E k j - E i j).tdiv 2) ∧ (m = 9999 ∨ ∃ a i k, a < n ∧ i < n ∧ k < n ∧ pt cut a i = true ∧ pt cut a k = true ∧ m = (E i a + E a k - E i k).tdiv 2)
theorem brI.mono {n cut : Nat} {E : Nat → Nat → Int} {Qp Qp' : Nat → Nat → Prop} {Qt Qt' : Nat → Nat → Nat → Prop} {m : Int} (h : brI n E cut Qp Qt m) (h1 : ∀ i j, i < n → j < n → Qp' i j → Qp i j) (h2 : ∀ i j k, i < n → j < n → k < n → Qt' i j k → Qt i j k) : brI n E cut Qp' Qt' m :=
  ⟨h.1, h.2.1, fun i j k hi hj hk q => h.2.2.1 i j k hi hj hk (h2 i j k hi hj hk q), fun i j hi hj q => h.2.2.2.1 i j hi hj (h1 i j hi hj q), fun i j k hi hj hk q => h.2.2.2.2.1 i j k hi hj hk (h2 i j k hi hj hk q), h.2.2.2.2.2⟩
theorem c_bears {d n cut : Nat} {D E : Nat → Nat → Int} {A B : Int} {w : fw_S} (hd : 1 ≤ d) (h : mA w n D A B) (hE : ∃ f, fw_g w 20 (.inr (36, .inl f)) ∧ ∀ i j, i < n → j < n → f (6 * i + j) = E i j) (hs : sym n E) (h0 : ∀ i, i < n → E i i = 0) (hr : okR n E 60) (hc : cut < 2 ^ n) (hc2 : 2 ≤ cut) (hce : cut % 2 = 0) (b : Bool) (hb : b = true ↔ met n E) : fw_K d mX8_bears [.ref 18, .int (iI cut)] w (some (.int (iI (if b = true then mh n E cut else 0)))) w := by
  obtain ⟨f, h2, hf⟩ := hE
  have h1 := h.1
  have hn := h.2.2
  have hp := p2_le hn.2
  -- some two points are parted
  have hpart : ∃ i, i < n ∧ pt cut 0 i = true := by
    have : ∀ c : Nat, c < 64 → 2 ≤ c → c % 2 = 0 → ∃ i : Nat, i < 6 ∧ c.testBit i = true ∧ c.testBit 0 = false := by decide +kernel
    obtain ⟨i, -, h3, h4⟩ := this cut (by omega) hc2 hce
    refine ⟨i, ?_, by unfold pt; rw [h3, h4]; rfl⟩
    rcases Nat.lt_or_ge i n with q | q
    · exact q
    · have := tb_le h3
      have h5 := Nat.pow_le_pow_right (n := 2) (by decide) q
      omega
  obtain ⟨rv, hrv⟩ : ∃ z, z = (if b = true then mh n E cut else 0) := ⟨_, rfl⟩
  rw [← hrv]
  have hmet_no : ∀ i j k, i < n → j < n → k < n → E i k + E k j - E i j < 0 → rv = 0 := by
    intro i j k hi hj hk hlt
    rw [hrv, if_neg]
    intro z
    have := (hb.mp z).2.2 i j k hi hj hk
    omega
  have outer := up_loop (fun i => ∀ m : Int, brI n E cut (fun i' _ => i' < i) (fun i' _ _ => i' < i) m → fw_R mX8_bears d 6 [some (.ref 18), some (.int (iI cut)), some (.int (iI m)), some (.int (iI i)), none, none, none, none] [] w (some (.int (iI rv))) w) n (by
    intro m hI
    have hmet : met n E := ⟨hs, h0, fun i j k hi hj hk => by have := hI.2.2.1 i j k hi hj hk hi; omega⟩
    have hm : mh n E cut = m := by
      apply mh_eq
      obtain ⟨i0, hi0, hp0⟩ := hpart
      have hm60 : m ≤ 60 := by
        have := hI.2.2.2.1 0 i0 (by omega) hi0 (by omega) hp0
        have := (hr 0 i0 (by omega) hi0).2
        omega
      refine ⟨hm60, fun a i k ha hi hk p q => ?_, ?_⟩
      · refine hI.2.2.2.2.1 i k a hi hk ha hi ?_ (by rw [pt_symm]; exact p)
        rw [pt_tri cut i k a, pt_symm cut i a, p, q]; rfl
      · rcases hI.2.2.2.2.2 with z | z
        · omega
        · exact Or.inr z
    have hrm : rv = m := by rw [hrv, if_pos (hb.mpr hmet), hm]
    rw [hrm]
    refine fr_iload_n dX8_bears_6 rfl ?_
    refine fr_aload_n dX8_bears_7 rfl ?_
    refine fr_get fX8_bears_8 h1 rfl ?_
    refine fr_icmp_ge (tgt := 168) dX8_bears_11 (by decide) (by omega) (by omega) (fun c => ?_) (fun c => ?_)
    · refine fr_iload_n dX8_bears_168 rfl ?_
      exact fr_iret dX8_bears_169 rfl (rfl) (rfl)
    · omega) (by
    intro i hi ih m hI
    have mid := up_loop (fun j => ∀ m : Int, brI n E cut (fun i' j' => i' < i ∨ i' = i ∧ j' < j) (fun i' j' _ => i' < i ∨ i' = i ∧ j' < j) m → fw_R mX8_bears d 17 [some (.ref 18), some (.int (iI cut)), some (.int (iI m)), some (.int (iI i)), some (.int (iI j)), none, none, none] [] w (some (.int (iI rv))) w) n (by
      intro m hI
      refine fr_iload dX8_bears_17 rfl ?_
      refine fr_aload_n dX8_bears_19 rfl ?_
      refine fr_get fX8_bears_20 h1 rfl ?_
      refine fr_icmp_ge (tgt := 162) dX8_bears_23 (by decide) (by omega) (by omega) (fun c => ?_) (fun c => ?_)
      · refine fr_iinc dX8_bears_162 rfl (by decide) rfl rfl ?_
        dsimp only [List.set, Option.toList, List.cons_append, List.nil_append]
        refine fr_goto (tgt := 6) dX8_bears_165 (by decide) ?_
        exact (ih m (hI.mono (fun i' j' _ hj' q => by omega) (fun i' j' k' _ hj' _ q => by omega))).wk (by simp [fw_le])
      · omega) (by
      intro j hj ihj m hI
      have eij := hr i j hi hj
      have rp := b2_r (pt cut i j)
      have m0 := hI.1
      have m9 := hI.2.1
      have inner := up_loop (fun k => ∀ m : Int, brI n E cut (fun i' j' => i' < i ∨ i' = i ∧ j' < j + 1) (fun i' j' k' => i' < i ∨ i' = i ∧ (j' < j ∨ j' = j ∧ k' < k)) m → fw_R mX8_bears d 66 [some (.ref 18), some (.int (iI cut)), some (.int (iI m)), some (.int (iI i)), some (.int (iI j)), some (.int (iI (E i j))), some (.int (iI k)), none] [] w (some (.int (iI rv))) w) n (by
        intro m hI
        refine fr_iload dX8_bears_66 rfl ?_
        refine fr_aload_n dX8_bears_68 rfl ?_
        refine fr_get fX8_bears_69 h1 rfl ?_
        refine fr_icmp_ge (tgt := 156) dX8_bears_72 (by decide) (by omega) (by omega) (fun c => ?_) (fun c => ?_)
        · refine fr_iinc dX8_bears_156 rfl (by decide) rfl rfl ?_
          dsimp only [List.set, Option.toList, List.cons_append, List.nil_append]
          refine fr_goto (tgt := 17) dX8_bears_159 (by decide) ?_
          exact (ihj m (hI.mono (fun i' j' _ _ q => q) (fun i' j' k' _ _ hk' q => by omega))).wk (by simp [fw_le])
        · omega) (by
        intro k hk ihk m hI
        have eik := hr i k hi hk
        have ekj := hr k j hk hj
        have rp2 := b2_r (pt cut i k)
        have m0 := hI.1
        have m9 := hI.2.1
        refine fr_iload dX8_bears_66 rfl ?_
        refine fr_aload_n dX8_bears_68 rfl ?_
        refine fr_get fX8_bears_69 h1 rfl ?_
        refine fr_icmp_ge (tgt := 156) dX8_bears_72 (by decide) (by omega) (by omega) (fun c => ?_) (fun c => ?_)
        · omega
        refine fr_aload_n dX8_bears_75 rfl ?_
        refine fr_get fX8_bears_76 h1 rfl ?_
        refine fr_bipush dX8_bears_79 (by decide) ?_
        refine fr_iload_n dX8_bears_81 rfl ?_
        refine fr_imul dX8_bears_82 ?_
        refine fr_iload dX8_bears_83 rfl ?_
        refine fr_iadd dX8_bears_85 ?_
        refine fr_iald (6 * i + k) dX8_bears_86 h2 (by omega) (by omega) (by decide) ?_
        refine fr_aload_n dX8_bears_87 rfl ?_
        refine fr_get fX8_bears_88 h1 rfl ?_
        refine fr_bipush dX8_bears_91 (by decide) ?_
        refine fr_iload dX8_bears_93 rfl ?_
        refine fr_imul dX8_bears_95 ?_
        refine fr_iload dX8_bears_96 rfl ?_
        refine fr_iadd dX8_bears_98 ?_
        refine fr_iald (6 * k + j) dX8_bears_99 h2 (by omega) (by omega) (by decide) ?_
        refine fr_iadd dX8_bears_100 ?_
        refine fr_iload dX8_bears_101 rfl ?_
        refine fr_isub dX8_bears_103 ?_
        refine fr_istore dX8_bears_104 (by decide) rfl rfl ?_
        dsimp only [List.set, Option.toList, List.cons_append, List.nil_append]
        refine fr_iload dX8_bears_106 rfl ?_
        rw [hf i k hi hk, hf k j hk hj]
        refine fr_if_ge (tgt := 113) dX8_bears_108 (by decide) (by omega) (fun c1 => ?_) (fun c1 => ?_)
        rotate_left
        · rw [hmet_no i j k hi hj hk c1]
          refine fr_iconst dX8_bears_111 ?_
          exact fr_iret dX8_bears_112 rfl (rfl) (rfl)
        have t2 := td2 c1
        have go : ∀ m' : Int, brI n E cut (fun i' j' => i' < i ∨ i' = i ∧ j' < j + 1) (fun i' j' k' => i' < i ∨ i' = i ∧ (j' < j ∨ j' = j ∧ k' < k + 1)) m' → fw_R mX8_bears d 149 [some (.ref 18), some (.int (iI cut)), some (.int (iI m)), some (.int (iI i)), some (.int (iI j)), some (.int (iI (E i j))), some (.int (iI k)), some (.int (iI (E i k + E k j - E i j)))] [.int (iI m')] w (some (.int (iI rv))) w := by
          intro m' hI'
          refine fr_istore_n dX8_bears_149 rfl (by decide) rfl rfl ?_
          dsimp only [List.set, Option.toList, List.cons_append, List.nil_append]
          refine fr_iinc dX8_bears_150 rfl (by decide) rfl rfl ?_
          dsimp only [List.set, Option.toList, List.cons_append, List.nil_append]
          refine fr_goto (tgt := 66) dX8_bears_153 (by decide) ?_
          exact (ihk m' hI').wk (by simp [fw_le])
        have same : ¬ (pt cut i j = false ∧ pt cut i k = true ∧ (E i k + E k j - E i j).tdiv 2 < m) → fw_R mX8_bears d 148 [some (.ref 18), some (.int (iI cut)), some (.int (iI m)), some (.int (iI i)), some (.int (iI j)), some (.int (iI (E i j))), some (.int (iI k)), some (.int (iI (E i k + E k j - E i j)))] [] w (some (.int (iI rv))) w := by
          intro z
          refine fr_iload_n dX8_bears_148 rfl ?_
          refine go m ⟨hI.1, hI.2.1, fun i' j' k' hi' hj' hk' q => ?_, hI.2.2.2.1, fun i' j' k' hi' hj' hk' q y1 y2 => ?_, hI.2.2.2.2.2⟩
          · by_cases e : i' = i ∧ j' = j ∧ k' = k
            · obtain ⟨rfl, rfl, rfl⟩ := e; exact c1
            · exact hI.2.2.1 i' j' k' hi' hj' hk' (by omega)
          · by_cases e : i' = i ∧ j' = j ∧ k' = k
            · obtain ⟨rfl, rfl, rfl⟩ := e
              exact Int.not_lt.mp (fun u => z ⟨y1, y2, u⟩)
            · exact hI.2.2.2.2.1 i' j' k' hi' hj' hk' (by omega) y1 y2
        refine fr_iload_n dX8_bears_113 rfl ?_
        refine fr_iload_n dX8_bears_114 rfl ?_
        refine fr_iload dX8_bears_115 rfl ?_
        refine fr_callS kX8_bears_117 (c_mparts (d := 0) (z := cut) (i := i) (j := j) (by omega) (by omega) (by omega)) (by omega) rfl rfl rfl ?_
        dsimp only [List.set, Option.toList, List.cons_append, List.nil_append]
        refine fr_if_ne (tgt := 148) dX8_bears_120 (by decide) (by omega) (fun c2 => ?_) (fun c2 => ?_)
        · exact same (fun z => by rw [z.1] at c2; exact absurd c2 (by decide))
        refine fr_iload_n dX8_bears_123 rfl ?_
        refine fr_iload_n dX8_bears_124 rfl ?_
        refine fr_iload dX8_bears_125 rfl ?_
        refine fr_callS kX8_bears_127 (c_mparts (d := 0) (z := cut) (i := i) (j := k) (by omega) (by omega) (by omega)) (by omega) rfl rfl rfl ?_
        dsimp only [List.set, Option.toList, List.cons_append, List.nil_append]
        refine fr_if_eq (tgt := 148) dX8_bears_130 (by decide) (by omega) (fun c3 => ?_) (fun c3 => ?_)
        · exact same (fun z => by rw [z.2.1] at c3; exact absurd c3 (by decide))
        refine fr_iload dX8_bears_133 rfl ?_
        refine fr_iconst dX8_bears_135 ?_
        refine fr_idiv dX8_bears_136 (by omega) (by omega) (by omega) ?_
        refine fr_iload_n dX8_bears_137 rfl ?_
        refine fr_icmp_ge (tgt := 148) dX8_bears_138 (by decide) (by omega) (by omega) (fun c4 => ?_) (fun c4 => ?_)
        · exact same (fun z => by have u : (E i k + E k j - E i j).tdiv 2 < m := z.2.2; have v : m ≤ (E i k + E k j - E i j).tdiv 2 := c4; omega)
        · have c4' : (E i k + E k j - E i j).tdiv 2 < m := c4
          have p1 := b2_0.mp c2
          have p2 := b2_n0.mp c3
          refine fr_iload dX8_bears_141 rfl ?_
          refine fr_iconst dX8_bears_143 ?_
          refine fr_idiv dX8_bears_144 (by omega) (by omega) (by omega) ?_
          refine fr_goto (tgt := 149) dX8_bears_145 (by decide) ?_
          refine go ((E i k + E k j - E i j).tdiv 2) ⟨by omega, by omega, fun i' j' k' hi' hj' hk' q => ?_, fun i' j' hi' hj' q y => ?_, fun i' j' k' hi' hj' hk' q y1 y2 => ?_, Or.inr ⟨k, i, j, hk, hi, hj, by rw [pt_symm]; exact p2, ?_, rfl⟩⟩
          · by_cases e : i' = i ∧ j' = j ∧ k' = k
            · obtain ⟨rfl, rfl, rfl⟩ := e; exact c1
            · exact hI.2.2.1 i' j' k' hi' hj' hk' (by omega)
          · have := hI.2.2.2.1 i' j' hi' hj' q y
            omega
          · by_cases e : i' = i ∧ j' = j ∧ k' = k
            · obtain ⟨rfl, rfl, rfl⟩ := e; exact Int.le_refl _
            · have := hI.2.2.2.2.1 i' j' k' hi' hj' hk' (by omega) y1 y2
              omega
          · have := pt_tri cut i j k
            rw [p1, p2] at this
            cases hz : pt cut k j with
            | true => rfl
            | false => rw [hz] at this; cases this)
      have K62 : ∀ m' : Int, brI n E cut (fun i' j' => i' < i ∨ i' = i ∧ j' < j + 1) (fun i' j' k' => i' < i ∨ i' = i ∧ (j' < j ∨ j' = j ∧ k' < 0)) m' → fw_R mX8_bears d 62 [some (.ref 18), some (.int (iI cut)), some (.int (iI m)), some (.int (iI i)), some (.int (iI j)), some (.int (iI (E i j))), none, none] [.int (iI m')] w (some (.int (iI rv))) w := by
        intro m' hI'
        refine fr_istore_n dX8_bears_62 rfl (by decide) rfl rfl ?_
        dsimp only [List.set, Option.toList, List.cons_append, List.nil_append]
        refine fr_iconst dX8_bears_63 ?_
        refine fr_istore dX8_bears_64 (by decide) rfl rfl ?_
        dsimp only [List.set, Option.toList, List.cons_append, List.nil_append]
        exact inner 0 (Nat.zero_le _) m' hI'
      have K61 : ¬ (pt cut i j = true ∧ E i j < m) → fw_R mX8_bears d 61 [some (.ref 18), some (.int (iI cut)), some (.int (iI m)), some (.int (iI i)), some (.int (iI j)), some (.int (iI (E i j))), none, none] [] w (some (.int (iI rv))) w := by
        intro z
        refine fr_iload_n dX8_bears_61 rfl ?_
        refine K62 m ⟨hI.1, hI.2.1, fun i' j' k' hi' hj' hk' q => hI.2.2.1 i' j' k' hi' hj' hk' (by omega), fun i' j' hi' hj' q y => ?_, fun i' j' k' hi' hj' hk' q y1 y2 => hI.2.2.2.2.1 i' j' k' hi' hj' hk' (by omega) y1 y2, hI.2.2.2.2.2⟩
        by_cases e : i' = i ∧ j' = j
        · obtain ⟨rfl, rfl⟩ := e; exact Int.not_lt.mp (fun u => z ⟨y, u⟩)
        · exact hI.2.2.2.1 i' j' hi' hj' (by omega) y
      refine fr_iload dX8_bears_17 rfl ?_
      refine fr_aload_n dX8_bears_19 rfl ?_
      refine fr_get fX8_bears_20 h1 rfl ?_
      refine fr_icmp_ge (tgt := 162) dX8_bears_23 (by decide) (by omega) (by omega) (fun c => ?_) (fun c => ?_)
      · omega
      refine fr_aload_n dX8_bears_26 rfl ?_
      refine fr_get fX8_bears_27 h1 rfl ?_
      refine fr_bipush dX8_bears_30 (by decide) ?_
      refine fr_iload_n dX8_bears_32 rfl ?_
      refine fr_imul dX8_bears_33 ?_
      refine fr_iload dX8_bears_34 rfl ?_
      refine fr_iadd dX8_bears_36 ?_
      refine fr_iald (6 * i + j) dX8_bears_37 h2 (by omega) (by omega) (by decide) ?_
      refine fr_istore dX8_bears_38 (by decide) rfl rfl ?_
      dsimp only [List.set, Option.toList, List.cons_append, List.nil_append]
      refine fr_iload_n dX8_bears_40 rfl ?_
      refine fr_iload_n dX8_bears_41 rfl ?_
      refine fr_iload dX8_bears_42 rfl ?_
      refine fr_callS kX8_bears_44 (c_mparts (d := 0) (z := cut) (i := i) (j := j) (by omega) (by omega) (by omega)) (by omega) rfl rfl rfl ?_
      dsimp only [List.set, Option.toList, List.cons_append, List.nil_append]
      rw [hf i j hi hj]
      refine fr_if_eq (tgt := 61) dX8_bears_47 (by decide) (by omega) (fun c2 => ?_) (fun c2 => ?_)
      · exact K61 (fun z => by rw [z.1] at c2; exact absurd c2 (by decide))
      · refine fr_iload dX8_bears_50 rfl ?_
        refine fr_iload_n dX8_bears_52 rfl ?_
        refine fr_icmp_ge (tgt := 61) dX8_bears_53 (by decide) (by omega) (by omega) (fun c3 => ?_) (fun c3 => ?_)
        · exact K61 (fun z => by omega)
        · have p1 := b2_n0.mp c2
          refine fr_iload dX8_bears_56 rfl ?_
          refine fr_goto (tgt := 62) dX8_bears_58 (by decide) ?_
          refine K62 (E i j) ⟨by omega, by omega, fun i' j' k' hi' hj' hk' q => hI.2.2.1 i' j' k' hi' hj' hk' (by omega), fun i' j' hi' hj' q y => ?_, fun i' j' k' hi' hj' hk' q y1 y2 => by have := hI.2.2.2.2.1 i' j' k' hi' hj' hk' (by omega) y1 y2; omega, Or.inr ⟨j, i, i, hj, hi, hi, by rw [pt_symm]; exact p1, by rw [pt_symm]; exact p1, ?_⟩⟩
          · by_cases e : i' = i ∧ j' = j
            · obtain ⟨rfl, rfl⟩ := e; exact Int.le_refl _
            · have := hI.2.2.2.1 i' j' hi' hj' (by omega) y; omega
          · rw [h0 i hi, hs j i hj hi, td2 (by omega)]; omega)
    refine fr_iload_n dX8_bears_6 rfl ?_
    refine fr_aload_n dX8_bears_7 rfl ?_
    refine fr_get fX8_bears_8 h1 rfl ?_
    refine fr_icmp_ge (tgt := 168) dX8_bears_11 (by decide) (by omega) (by omega) (fun c => ?_) (fun c => ?_)
    · omega
    refine fr_iconst dX8_bears_14 ?_
    refine fr_istore dX8_bears_15 (by decide) rfl rfl ?_
    dsimp only [List.set, Option.toList, List.cons_append, List.nil_append]
    exact mid 0 (Nat.zero_le _) m (hI.mono (fun i' j' _ _ q => by omega) (fun i' j' k' _ _ _ q => by omega)))
  refine fw_K.of (by decide) (Nat.le_of_ble_eq_true rfl) (by simp [Value.category]) (rfl) ?_
  show fw_R _ _ 0 [some (.ref 18), some (.int (iI cut)), none, none, none, none, none, none] [] _ _ _
  refine fr_sipush dX8_bears_0 (by decide) ?_
  refine fr_istore_n dX8_bears_3 rfl (by decide) rfl rfl ?_
  dsimp only [List.set, Option.toList, List.cons_append, List.nil_append]
  refine fr_iconst dX8_bears_4 ?_
  refine fr_istore_n dX8_bears_5 rfl (by decide) rfl rfl ?_
  dsimp only [List.set, Option.toList, List.cons_append, List.nil_append]
  exact outer 0 (Nat.zero_le _) 9999 ⟨by omega, by omega, fun i j k _ _ _ q => absurd q (Nat.not_lt_zero i), fun i j _ _ q => absurd q (Nat.not_lt_zero i), fun i j k _ _ _ q => absurd q (Nat.not_lt_zero i), Or.inl rfl⟩
def mp (w : fw_S) (n : Nat) (D : Nat → Nat → Int) (A B : Int) : Prop := mA w n D A B ∧ (∃ f, fw_g w 20 (.inr (36, .inl f))) ∧ (∃ g, fw_g w 21 (.inr (64, .inl g)))
theorem c_peelAll {d n : Nat} {D : Nat → Nat → Int} {A B : Int} {w : fw_S} (hd : 2 ≤ d) (h : mp w n D A B) (hD : okR n D 30) (hsy : sym n D) (h0 : ∀ i, i < n → D i i = 0) (b : Bool) (hb : b = true ↔ met n (fun i j => 2 * D i j)) : ∃ w', fw_K d mX8_peelAll [.ref 18] w none w' ∧ mp w' n D A B ∧ (∃ f, fw_g w' 20 (.inr (36, .inl f)) ∧ ∀ i j, i < n → j < n → f (6 * i + j) = plE n D b (2 ^ (n - 1) - 1) i j) ∧ (∃ f, fw_g w' 21 (.inr (64, .inl f)) ∧ ∀ s, s < 2 ^ (n - 1) - 1 → f (2 * (s + 1)) = plM n D b s) ∧ kp w w' (fun k => k = 20 ∨ k = 21) := by
  obtain ⟨hA, ⟨f20, h20⟩, ⟨f21, h21⟩⟩ := h
  obtain ⟨h1, ⟨f19, h19, hf19⟩, hn⟩ := id hA
  have hp := p2_half hn
  have hp64 := p2_le hn.2
  -- the copy
  have copy := lpE (M := mX8_peelAll) (d := d) (pcH := 2) 36 (fun k _ => [some (.ref 18), some (.int (iI k)), none, none, none]) (fun k (_ : Unit) v => fw_g v 18 (.inl (8, [.int (iI n), .ref 19, .ref 20, .ref 21, .ref 22, .ref 23, .ref 24, .ref 25, .int (iI A), .int (iI B)])) ∧ fw_g v 19 (.inr (36, .inl f19)) ∧ (∃ f, fw_g v 20 (.inr (36, .inl f)) ∧ ∀ k', k' < k → f k' = 2 * f19 k') ∧ kp w v (fun k => k = 20)) (by
    intro k _ v hk ⟨g1, g2, ⟨f, g3, g4⟩, g5⟩
    refine ⟨(), fw_up v 20 (.inr (36, .inl (fw_u f k (2 * f19 k)))), ⟨g1.ne _ (by decide), g2.ne _ (by decide), ⟨_, g3.up _, fun k' hk' => ?_⟩, g5.trans (kp.up _ _ _)⟩, ?_⟩
    · by_cases e : k' = k
      · subst e; rw [fw_u_self]
      · rw [fw_u_ne _ _ e]; exact g4 k' (by omega)
    · intro r w' kk
      refine fr_iload_n dX8_peelAll_2 rfl ?_
      refine fr_bipush dX8_peelAll_3 (by decide) ?_
      refine fr_icmp_ge (tgt := 28) dX8_peelAll_5 (by decide) (by omega) (by omega) (fun c => ?_) (fun c => ?_)
      · omega
      refine fr_aload_n dX8_peelAll_8 rfl ?_
      refine fr_get fX8_peelAll_9 g1 rfl ?_
      refine fr_iload_n dX8_peelAll_12 rfl ?_
      refine fr_iconst dX8_peelAll_13 ?_
      refine fr_aload_n dX8_peelAll_14 rfl ?_
      refine fr_get fX8_peelAll_15 g1 rfl ?_
      refine fr_iload_n dX8_peelAll_18 rfl ?_
      refine fr_iald (k) dX8_peelAll_19 g2 (by omega) (by omega) (by decide) ?_
      refine fr_imul dX8_peelAll_20 ?_
      refine fr_iast (k) dX8_peelAll_21 g3 (by omega) (by omega) (by decide) ?_
      refine fr_iinc dX8_peelAll_22 rfl (by decide) rfl rfl ?_
      dsimp only [List.set, Option.toList, List.cons_append, List.nil_append]
      refine fr_goto (tgt := 2) dX8_peelAll_25 (by decide) ?_
      exact kk)
  obtain ⟨_, w1, ⟨a1, a2, ⟨f, a3, a4⟩, a5⟩, hr1⟩ := copy 0 () w (Nat.zero_le _) ⟨h1, h19, ⟨f20, h20, fun k' hk' => absurd hk' (Nat.not_lt_zero _)⟩, kp.rf⟩
  have aA := hA.kp a5 (by decide) (by decide)
  have a21 := a5.g (k := 21) (by decide) h21
  have hE0 : ∀ i j, i < n → j < n → f (6 * i + j) = plE n D b 0 i j := fun i j hi hj => by
    rw [a4 _ (by omega), hf19 i j hi hj]; rfl
  -- the cuts
  have hsh := iI_shl (m := 1) n (by rw [Nat.one_mul]; omega) (by omega)
  rw [Nat.one_mul] at hsh
  have cuts := lpE (M := mX8_peelAll) (d := d) (pcH := 30) (2 ^ (n - 1) - 1) (fun s _ => [some (.ref 18), some (.int (iI (2 * ((s : Int) + 1)))), none, none, none]) (fun s (_ : Unit) v => mA v n D A B ∧ (∃ f, fw_g v 20 (.inr (36, .inl f)) ∧ ∀ i j, i < n → j < n → f (6 * i + j) = plE n D b s i j) ∧ (∃ f, fw_g v 21 (.inr (64, .inl f)) ∧ ∀ s', s' < s → f (2 * (s' + 1)) = plM n D b s') ∧ kp w1 v (fun k => k = 20 ∨ k = 21)) (by
    intro s _ v hs ⟨g1, ⟨fE, g2, g3⟩, ⟨fT, g4, g5⟩, g6⟩
    have hss : 2 * (s + 1) < 2 ^ n := by omega
    obtain ⟨c, hc⟩ : ∃ c, c = 2 * (s + 1) := ⟨_, rfl⟩
    have hplE : sym n (plE n D b s) ∧ (∀ i, i < n → plE n D b s i i = 0) ∧ okR n (plE n D b s) 60 ∧ (b = true ↔ met n (plE n D b s)) := by
      cases hbb : b with
      | false =>
        rw [pl_no]
        refine ⟨fun i j hi hj => by show 2 * D i j = 2 * D j i; rw [hsy i j hi hj], fun i hi => by show 2 * D i i = 0; rw [h0 i hi]; rfl, fun i j hi hj => by have := hD i j hi hj; show 0 ≤ 2 * D i j ∧ 2 * D i j ≤ 60; omega, ?_⟩
        rw [← hb, hbb]
      | true =>
        have := pl_ok hD (hb.mp hbb) s
        exact ⟨this.1.1, this.1.2.1, this.2, fun _ => this.1, fun _ => rfl⟩
    have hbr := c_bears (d := d - 1) (cut := c) (by omega) g1 ⟨fE, g2, g3⟩ hplE.1 hplE.2.1 hplE.2.2.1 (by omega) (by omega) (by omega) b hplE.2.2.2
    have hM : (if b = true then mh n (plE n D b s) c else 0) = plM n D b s := by rw [hc]; rfl
    rw [hM] at hbr
    have hMr : 0 ≤ plM n D b s ∧ plM n D b s ≤ 60 := by
      unfold plM
      split
      next z => exact ⟨(mh_is n _ _).nn (hplE.2.2.2.mp z), (mh_is n _ _).1⟩
      next => omega
    obtain ⟨M, hMe⟩ : ∃ M, M = plM n D b s := ⟨_, rfl⟩
    rw [← hMe] at hbr hMr
    have u4 := g4.up (.inr (64, .inl (fw_u fT c M)))
    have u2 := g2.ne (k := 21) (.inr (64, .inl (fw_u fT c M))) (by decide)
    have u1 := g1.kp (kp.up v 21 (.inr (64, .inl (fw_u fT c M)))) (by decide) (by decide)
    obtain ⟨v1, hv1⟩ : ∃ v1, v1 = fw_up v 21 (.inr (64, .inl (fw_u fT c M))) := ⟨_, rfl⟩
    rw [← hv1] at u1 u2 u4
    have uk : kp v v1 (fun k => k = 20 ∨ k = 21) := by rw [hv1]; exact (kp.up _ _ _).mono (fun k hk => Or.inr hk)
    have take := lpE (M := mX8_peelAll) (d := d) (pcH := 55) n (fun i _ => [some (.ref 18), some (.int (iI c)), some (.int (iI M)), some (.int (iI i)), none]) (fun i (_ : Unit) v => mA v n D A B ∧ (∃ f, fw_g v 20 (.inr (36, .inl f)) ∧ ∀ x y, x < n → y < n → f (6 * x + y) = if pt c x y = true ∧ x < i then plE n D b s x y - M else plE n D b s x y) ∧ kp v1 v (fun k => k = 20)) (by
      intro i _ v hi ⟨t1, ⟨ft, t2, t3⟩, t4⟩
      have inner := lpE (M := mX8_peelAll) (d := d) (pcH := 66) n (fun j _ => [some (.ref 18), some (.int (iI c)), some (.int (iI M)), some (.int (iI i)), some (.int (iI j))]) (fun j (_ : Unit) v => mA v n D A B ∧ (∃ f, fw_g v 20 (.inr (36, .inl f)) ∧ ∀ x y, x < n → y < n → f (6 * x + y) = if pt c x y = true ∧ (x < i ∨ x = i ∧ y < j) then plE n D b s x y - M else plE n D b s x y) ∧ kp v1 v (fun k => k = 20)) (by
        intro j _ v hj ⟨t1, ⟨ft, t2, t3⟩, t4⟩
        have t11 := t1.1
        have rp := b2_r (pt c i j)
        have hfv := t3 i j hi hj
        rw [if_neg (by omega)] at hfv
        refine ⟨(), fw_up v 20 (.inr (36, .inl (fw_u ft (6 * i + j) (plE n D b s i j - (if pt c i j = true then M else 0))))), ⟨t1.kp (kp.up v 20 _) (by decide) (by decide), ⟨_, t2.up _, fun x y hx hy => ?_⟩, t4.trans (kp.up _ _ _)⟩, ?_⟩
        · by_cases e : 6 * x + y = 6 * i + j
          · have e1 : x = i ∧ y = j := by omega
            rw [e, fw_u_self, e1.1, e1.2]
            by_cases hz : pt c i j = true
            · rw [if_pos hz, if_pos ⟨hz, by omega⟩]
            · rw [if_neg hz, if_neg (fun y => hz y.1), Int.sub_zero]
          · rw [fw_u_ne _ _ e, t3 x y hx hy]
            by_cases hz : pt c x y = true ∧ (x < i ∨ x = i ∧ y < j)
            · rw [if_pos hz, if_pos ⟨hz.1, by omega⟩]
            · rw [if_neg hz, if_neg (fun y' => hz ⟨y'.1, by omega⟩)]
        · intro r w' kk
          refine fr_iload dX8_peelAll_66 rfl ?_
          refine fr_aload_n dX8_peelAll_68 rfl ?_
          refine fr_get fX8_peelAll_69 t11 rfl ?_
          refine fr_icmp_ge (tgt := 111) dX8_peelAll_72 (by decide) (by omega) (by omega) (fun c1 => ?_) (fun c1 => ?_)
          · omega
          refine fr_aload_n dX8_peelAll_75 rfl ?_
          refine fr_get fX8_peelAll_76 t11 rfl ?_
          refine fr_bipush dX8_peelAll_79 (by decide) ?_
          refine fr_iload_n dX8_peelAll_81 rfl ?_
          refine fr_imul dX8_peelAll_82 ?_
          refine fr_iload dX8_peelAll_83 rfl ?_
          refine fr_iadd dX8_peelAll_85 ?_
          refine fr_dup2 dX8_peelAll_86 rfl rfl ?_
          refine fr_iald (6 * i + j) dX8_peelAll_87 t2 (by omega) (by omega) (by decide) ?_
          refine fr_iload_n dX8_peelAll_88 rfl ?_
          refine fr_iload_n dX8_peelAll_89 rfl ?_
          refine fr_iload dX8_peelAll_90 rfl ?_
          refine fr_callS kX8_peelAll_92 (c_mparts (d := 0) (z := c) (i := i) (j := j) (by omega) (by omega) (by omega)) (by omega) rfl rfl rfl ?_
          dsimp only [List.set, Option.toList, List.cons_append, List.nil_append]
          rw [hfv]
          refine fr_if_eq (tgt := 102) dX8_peelAll_95 (by decide) (by omega) (fun c2 => ?_) (fun c2 => ?_)
          · rw [if_neg (fun y => by rw [y] at c2; exact absurd c2 (by decide))] at kk
            refine fr_iconst dX8_peelAll_102 ?_
            refine fr_isub dX8_peelAll_103 ?_
            refine fr_iast (6 * i + j) dX8_peelAll_104 t2 (by omega) (by omega) (by decide) ?_
            refine fr_iinc dX8_peelAll_105 rfl (by decide) rfl rfl ?_
            dsimp only [List.set, Option.toList, List.cons_append, List.nil_append]
            refine fr_goto (tgt := 66) dX8_peelAll_108 (by decide) ?_
            exact kk
          · rw [if_pos (b2_n0.mp c2)] at kk
            refine fr_iload_n dX8_peelAll_98 rfl ?_
            refine fr_goto (tgt := 103) dX8_peelAll_99 (by decide) ?_
            refine fr_isub dX8_peelAll_103 ?_
            refine fr_iast (6 * i + j) dX8_peelAll_104 t2 (by omega) (by omega) (by decide) ?_
            refine fr_iinc dX8_peelAll_105 rfl (by decide) rfl rfl ?_
            dsimp only [List.set, Option.toList, List.cons_append, List.nil_append]
            refine fr_goto (tgt := 66) dX8_peelAll_108 (by decide) ?_
            exact kk)
      obtain ⟨_, wE, ⟨e1, ⟨fe, e2, e3⟩, e4⟩, hr⟩ := inner 0 () v (Nat.zero_le _) ⟨t1, ⟨ft, t2, fun x y hx hy => by
        rw [t3 x y hx hy]
        by_cases hz : pt c x y = true ∧ x < i
        · rw [if_pos hz, if_pos ⟨hz.1, by omega⟩]
        · rw [if_neg hz, if_neg (fun y' => hz ⟨y'.1, by omega⟩)]⟩, t4⟩
      refine ⟨(), wE, ⟨e1, ⟨fe, e2, fun x y hx hy => by
        rw [e3 x y hx hy]
        by_cases hz : pt c x y = true ∧ x < i + 1
        · rw [if_pos hz, if_pos ⟨hz.1, by omega⟩]
        · rw [if_neg hz, if_neg (fun y' => hz ⟨y'.1, by omega⟩)]⟩, e4⟩, ?_⟩
      intro r w' kk
      have t11 := t1.1
      have e11 := e1.1
      refine fr_iload_n dX8_peelAll_55 rfl ?_
      refine fr_aload_n dX8_peelAll_56 rfl ?_
      refine fr_get fX8_peelAll_57 t11 rfl ?_
      refine fr_icmp_ge (tgt := 117) dX8_peelAll_60 (by decide) (by omega) (by omega) (fun c1 => ?_) (fun c1 => ?_)
      · omega
      refine fr_iconst dX8_peelAll_63 ?_
      refine fr_istore dX8_peelAll_64 (by decide) rfl rfl ?_
      dsimp only [List.set, Option.toList, List.cons_append, List.nil_append]
      refine hr r w' ?_
      refine fr_iload dX8_peelAll_66 rfl ?_
      refine fr_aload_n dX8_peelAll_68 rfl ?_
      refine fr_get fX8_peelAll_69 e11 rfl ?_
      refine fr_icmp_ge (tgt := 111) dX8_peelAll_72 (by decide) (by omega) (by omega) (fun c1 => ?_) (fun c1 => ?_)
      · refine fr_iinc dX8_peelAll_111 rfl (by decide) rfl rfl ?_
        dsimp only [List.set, Option.toList, List.cons_append, List.nil_append]
        refine fr_goto (tgt := 55) dX8_peelAll_114 (by decide) ?_
        exact kk.wk (by simp [fw_le])
      · omega)
    obtain ⟨_, v2, ⟨e1, ⟨fe, e2, e3⟩, e4⟩, hr⟩ := take 0 () v1 (Nat.zero_le _) ⟨u1, ⟨fE, u2, fun x y hx hy => by rw [g3 x y hx hy, if_neg (fun y' => absurd y'.2 (Nat.not_lt_zero x))]⟩, kp.rf⟩
    refine ⟨(), v2, ⟨e1, ⟨fe, e2, fun x y hx hy => ?_⟩, ⟨_, e4.g (by decide) u4, fun s' hs' => ?_⟩, (g6.trans uk).trans (e4.mono (fun k hk => Or.inl hk))⟩, ?_⟩
    · rw [e3 x y hx hy, plE_s, ← hMe, ← hc]
      unfold cutD
      by_cases hz : pt c x y = true
      · rw [if_pos ⟨hz, hx⟩, if_pos hz]; omega
      · rw [if_neg (fun y' => hz y'.1), if_neg hz]
    · by_cases e : s' = s
      · subst e; rw [← hc, fw_u_self, hMe]
      · rw [fw_u_ne _ _ (by omega)]; exact g5 s' (by omega)
    · intro r w' kk
      have g11 := g1.1
      have e11 := e1.1
      rw [show ((s + 1 : Nat) : Int) + 1 = (s : Int) + 1 + 1 by omega] at kk
      rw [show 2 * ((s : Int) + 1) = (c : Int) by omega]
      refine fr_iload_n dX8_peelAll_30 rfl ?_
      refine fr_iconst dX8_peelAll_31 ?_
      refine fr_aload_n dX8_peelAll_32 rfl ?_
      refine fr_get fX8_peelAll_33 g11 rfl ?_
      refine fr_ishl (((2 ^ n : Nat) : Int)) dX8_peelAll_36 (hsh) ?_
      generalize 2 ^ n = P at *
      refine fr_icmp_ge (tgt := 123) dX8_peelAll_37 (by decide) (by omega) (by omega) (fun c1 => ?_) (fun c1 => ?_)
      · omega
      refine fr_aload_n dX8_peelAll_40 rfl ?_
      refine fr_iload_n dX8_peelAll_41 rfl ?_
      refine fr_callV kX8_peelAll_42 (hbr) (by omega) g11 rfl rfl rfl ?_
      dsimp only [List.set, Option.toList, List.cons_append, List.nil_append]
      refine fr_istore_n dX8_peelAll_45 rfl (by decide) rfl rfl ?_
      dsimp only [List.set, Option.toList, List.cons_append, List.nil_append]
      refine fr_aload_n dX8_peelAll_46 rfl ?_
      refine fr_get fX8_peelAll_47 g11 rfl ?_
      refine fr_iload_n dX8_peelAll_50 rfl ?_
      refine fr_iload_n dX8_peelAll_51 rfl ?_
      refine fr_iast (c) dX8_peelAll_52 g4 (by omega) (by omega) (by decide) ?_
      rw [← hv1]
      refine fr_iconst dX8_peelAll_53 ?_
      refine fr_istore_n dX8_peelAll_54 rfl (by decide) rfl rfl ?_
      dsimp only [List.set, Option.toList, List.cons_append, List.nil_append]
      refine hr r w' ?_
      refine fr_iload_n dX8_peelAll_55 rfl ?_
      refine fr_aload_n dX8_peelAll_56 rfl ?_
      refine fr_get fX8_peelAll_57 e11 rfl ?_
      refine fr_icmp_ge (tgt := 117) dX8_peelAll_60 (by decide) (by omega) (by omega) (fun c1 => ?_) (fun c1 => ?_)
      · refine fr_iinc dX8_peelAll_117 rfl (by decide) rfl rfl ?_
        dsimp only [List.set, Option.toList, List.cons_append, List.nil_append]
        refine fr_goto (tgt := 30) dX8_peelAll_120 (by decide) ?_
        rw [show (c : Int) + 2 = 2 * ((s : Int) + 1 + 1) by omega]
        exact kk.wk (by simp [fw_le])
      · omega)
  obtain ⟨_, w2, ⟨e1, ⟨fE, e2, e3⟩, ⟨fT, e4, e5⟩, e6⟩, hr2⟩ := cuts 0 () w1 (Nat.zero_le _) ⟨aA, ⟨f, a3, hE0⟩, ⟨f21, a21, fun s' hs' => absurd hs' (Nat.not_lt_zero _)⟩, kp.rf⟩
  have kall : kp w w2 (fun k => k = 20 ∨ k = 21) := (a5.mono (fun k hk => Or.inl hk)).trans e6
  refine ⟨w2, ?_, ⟨e1, ⟨fE, e2⟩, ⟨fT, e4⟩⟩, ⟨fE, e2, e3⟩, ⟨fT, e4, e5⟩, kall⟩
  have e11 := e1.1
  refine fw_K.of (by decide) (Nat.le_of_ble_eq_true rfl) (by simp [Value.category]) (kall.1) ?_
  show fw_R _ _ 0 [some (.ref 18), none, none, none, none] [] _ _ _
  refine fr_iconst dX8_peelAll_0 ?_
  refine fr_istore_n dX8_peelAll_1 rfl (by decide) rfl rfl ?_
  dsimp only [List.set, Option.toList, List.cons_append, List.nil_append]
  refine hr1 _ _ ?_
  refine fr_iload_n dX8_peelAll_2 rfl ?_
  refine fr_bipush dX8_peelAll_3 (by decide) ?_
  refine fr_icmp_ge (tgt := 28) dX8_peelAll_5 (by decide) (by omega) (by omega) (fun c => ?_) (fun c => ?_)
  rotate_left
  · omega
  refine fr_iconst dX8_peelAll_28 ?_
  refine fr_istore_n dX8_peelAll_29 rfl (by decide) rfl rfl ?_
  dsimp only [List.set, Option.toList, List.cons_append, List.nil_append]
  refine hr2 _ _ ?_
  refine fr_iload_n dX8_peelAll_30 rfl ?_
  refine fr_iconst dX8_peelAll_31 ?_
  refine fr_aload_n dX8_peelAll_32 rfl ?_
  refine fr_get fX8_peelAll_33 e11 rfl ?_
  refine fr_ishl (((2 ^ n : Nat) : Int)) dX8_peelAll_36 (hsh) ?_
  generalize 2 ^ n = P at *
  refine fr_icmp_ge (tgt := 123) dX8_peelAll_37 (by decide) (by omega) (by omega) (fun c1 => ?_) (fun c1 => ?_)
  · exact fr_vret dX8_peelAll_123 rfl rfl (rfl)
  · omega
