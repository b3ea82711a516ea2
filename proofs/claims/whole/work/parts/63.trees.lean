def tot (A : List Nat) (Z : Nat → Nat) : Nat := (A.map Z).sum
theorem tot_up {k z : Nat} {Z : Nat → Nat} : ∀ {A : List Nat}, A.Nodup → tot A (va_up Z k z) + (if k ∈ A then Z k else 0) = tot A Z + (if k ∈ A then z else 0)
  | [], _ => by simp [tot]
  | j :: A, hn => by
    have ih := tot_up (k := k) (z := z) (Z := Z) (List.nodup_cons.mp hn).2
    have hj := (List.nodup_cons.mp hn).1
    unfold tot at ih ⊢
    rw [List.map_cons, List.map_cons, List.sum_cons, List.sum_cons]
    by_cases h : k = j
    · subst h
      rw [if_neg hj, if_neg hj] at ih
      rw [if_pos List.mem_cons_self, if_pos List.mem_cons_self]
      have e : va_up Z k z k = z := by simp [va_up]
      rw [e]
      omega
    · have e : va_up Z k z j = Z j := by simp [va_up, show ¬ j = k from fun q => h q.symm]
      have e2 : (k ∈ j :: A) = (k ∈ A) := by simp [h]
      rw [e]
      simp only [e2]
      omega
theorem tot_put {k : Nat} {Z : Nat → Nat} {A : List Nat} (hn : A.Nodup) : tot A (va_up Z k (Z k + 1)) = tot A Z + (if k ∈ A then 1 else 0) := by
  have := tot_up (k := k) (z := Z k + 1) (Z := Z) hn
  by_cases h : k ∈ A
  · rw [if_pos h, if_pos h] at this
    rw [if_pos h]
    omega
  · rw [if_neg h, if_neg h] at this
    rw [if_neg h]
    omega
def zPh (A : List Nat) (base : Nat) (ph : Nat → Nat → Nat) (kk : Nat) : Prop := A.Nodup ∧ ∀ v j, j < kk → 2 ^ (kk - (j + 1)) ≤ v → v < 2 ^ (kk - j) → (if base + v ∈ A then 1 else 0) + ph (2 * v) j ≤ ph v (j + 1) ∧ ph (2 * v + 1) j ≤ ph v (j + 1)
theorem y_dbl (v bit : Nat) : 2 * nI v + nI bit = nI (2 * v + bit) := by rw [show (2 : Int32) = nI 2 from rfl, y_mul, y_add]
theorem d_treeL {n m g b e lc lp pb st base base' kk : Nat} (x2 x3 : Int32) (hl : base + 2 ^ kk ≤ 2052 + 768 * 2 ^ (lc + lp)) (hk : kk ≤ 8) (hf : ∀ v, v < 2 ^ kk → zf (base + v) = base' + v) : ∀ (j k1 k2 v r c x : Nat) (Z : Nat → Nat) (D R : zx_D), j ≤ kk → j < k1 → j < k2 → 2 ^ (kk - j) ≤ v → v < 2 ^ (kk - j + 1) → zA n m g b r c x e lc lp pb st Z D R → c < r →
    (∃ v' r' c' x' Z' D' R', 2 ^ kk ≤ v' ∧ v' < 2 ^ (kk + 1) ∧ g_Mdl_codeTree_s_8 (nI base) x2 x3 k1 (nI v) (nI j - 1) D = some (nI v', D') ∧ g_R_tree_5 (nI base') (nI kk) k2 (nI v) (nI (kk - j)) R = some (nI v', R') ∧ zA n m g b r' c' x' e lc lp pb st Z' D' R' ∧ zQ D D' R R' ∧ c' < r' ∧ ∀ A ph, zPh A base ph kk → tot A Z' ≤ tot A Z + ph v j) ∨
    (∃ v' D' R', v' < 2 ^ (kk + 1) ∧ 2 ^ kk ≤ v' ∧ g_Mdl_codeTree_s_8 (nI base) x2 x3 k1 (nI v) (nI j - 1) D = some (nI v', D') ∧ g_R_tree_5 (nI base') (nI kk) k2 (nI v) (nI (kk - j)) R = some (nI v', R') ∧ zX n m g b D' R' ∧ zQ D D' R R')
  | 0, k1 + 1, k2 + 1, v, r, c, x, Z, D, R, _, _, _, hv1, hv2, h, hcr => by
    left
    have e1 : nI 0 - 1 < 0 := by decide
    have e2 : nI kk ≤ nI (kk - 0) := by rw [Nat.sub_zero]; exact Int32.le_refl _
    rw [Nat.sub_zero] at hv1 hv2
    exact ⟨v, r, c, x, Z, D, R, hv1, hv2, by simp only [Option.bind_some, ↓reduceIte, not_true_eq_false, not_false_eq_true, y_1, g_Mdl_codeTree_s_8, e1], by simp only [Option.bind_some, ↓reduceIte, not_true_eq_false, not_false_eq_true, y_1, g_R_tree_5, e2], h, zQ_rfl, hcr, fun A ph _ => Nat.le_add_right _ _⟩
  | j + 1, k1 + 1, k2 + 1, v, r, c, x, Z, D, R, hj, h1, h2, hv1, hv2, h, hcr => by
    have hp : 2 ^ (kk - (j + 1) + 1) = 2 ^ (kk - j) := by congr 1; omega
    have hp2 : 2 ^ (kk - j) = 2 * 2 ^ (kk - (j + 1)) := by rw [← hp, Nat.pow_succ, Nat.mul_comm]
    have hp3 : 2 ^ (kk - j) ≤ 2 ^ kk := Nat.pow_le_pow_right (by omega) (by omega)
    have hp4 : 2 ^ kk ≤ 2 ^ 8 := Nat.pow_le_pow_right (by omega) hk
    have hp5 : 2 ^ (kk - j + 1) = 2 * 2 ^ (kk - j) := by rw [Nat.pow_succ, Nat.mul_comm]
    rw [hp] at hv2
    have hvk : v < 2 ^ kk := by omega
    have e1 : ¬ nI (j + 1) - 1 < 0 := by
      rw [show nI (j + 1) - 1 = nI j from y_sub (a := j + 1) (b := 1) (by omega)]
      intro q
      have := (y_lt (a := j) (b := 0) (by omega) (by omega)).mp q
      omega
    have e2 : ¬ nI kk ≤ nI (kk - (j + 1)) := fun q => by have := (y_le (by omega) (by omega)).mp q; omega
    have e3 : nI (j + 1) - 1 + (-1) = nI j - 1 := by
      rw [show nI (j + 1) - 1 = nI j from y_sub (a := j + 1) (b := 1) (by omega)]
      exact (Int32.sub_eq_add_neg _ _).symm
    have e4 : kk - (j + 1) + 1 = kk - j := by omega
    have e5 : nI base' + nI v = nI (zf (base + v)) := by rw [y_add, hf v hvk]
    rcases d_bit h (Or.inl hcr) (k := base + v) (by omega) (zo_ushr x3 (nI (j + 1) - 1) &&& 1) with ⟨r1, c1, x1, Z1, bit, D1, R1, t1, t2, t3, t4, t5, t6, t7⟩ | ⟨D1, R1, t1, t2, t3, t4⟩
    · have hbit : bit ≤ 1 := by omega
      have E1 : g_Mdl_codeTree_s_8 (nI base) x2 x3 (k1 + 1) (nI v) (nI (j + 1) - 1) D = g_Mdl_codeTree_s_8 (nI base) x2 x3 k1 (nI (2 * v + bit)) (nI j - 1) D1 := by
        rw [g_Mdl_codeTree_s_8, if_neg e1, y_add, t1, Option.bind_some, y_dbl, e3]
      have E2 : g_R_tree_5 (nI base') (nI kk) (k2 + 1) (nI v) (nI (kk - (j + 1))) R = g_R_tree_5 (nI base') (nI kk) k2 (nI (2 * v + bit)) (nI (kk - j)) R1 := by
        rw [g_R_tree_5, if_neg e2, e5, t2, Option.bind_some, y_dbl, y_1, e4]
      rw [E1, E2]
      rcases d_treeL x2 x3 hl hk hf j k1 k2 (2 * v + bit) r1 c1 x1 Z1 D1 R1 (by omega) (by omega) (by omega) (by omega) (by omega) t3 (t6 hcr) with ⟨v', r', c', x', Z', D', R', u1, u2, u3, u4, u5, u6, u7, u8⟩ | ⟨v', D', R', u1, u2, u3, u4, u5, u6⟩
      · left
        refine ⟨v', r', c', x', Z', D', R', u1, u2, u3, u4, u5, t4.trans u6, u7, fun A ph hph => ?_⟩
        have w1 := u8 A ph hph
        obtain ⟨w2, w3⟩ := hph.2 v j (by omega) hv1 hv2
        rcases t5 with ⟨q1, q2⟩ | ⟨q1, q2⟩
        · subst q1
          rw [q2, tot_put hph.1] at w1
          rw [Nat.add_zero] at w1
          omega
        · subst q1
          rw [q2] at w1
          omega
      · exact Or.inr ⟨v', D', R', u1, u2, u3, u4, u5, t4.trans u6⟩
    · right
      have E1 : g_Mdl_codeTree_s_8 (nI base) x2 x3 (k1 + 1) (nI v) (nI (j + 1) - 1) D = g_Mdl_codeTree_s_8 (nI base) x2 x3 k1 (nI (2 * v + 0)) (nI j - 1) D1 := by
        rw [g_Mdl_codeTree_s_8, if_neg e1, y_add, t1, Option.bind_some, ← y_dbl, e3]
        rfl
      have E2 : g_R_tree_5 (nI base') (nI kk) (k2 + 1) (nI v) (nI (kk - (j + 1))) R = g_R_tree_5 (nI base') (nI kk) k2 (nI (2 * v + 0)) (nI (kk - j)) R1 := by
        rw [g_R_tree_5, if_neg e2, e5, t2, Option.bind_some, ← y_dbl, y_1, e4]
        rfl
      rw [E1, E2]
      have dead : ∀ (j k1 k2 v : Nat), j ≤ kk → j < k1 → j < k2 → 2 ^ (kk - j) ≤ v → v < 2 ^ (kk - j + 1) → ∃ v', v' < 2 ^ (kk + 1) ∧ 2 ^ kk ≤ v' ∧ g_Mdl_codeTree_s_8 (nI base) x2 x3 k1 (nI v) (nI j - 1) D1 = some (nI v', D1) ∧ g_R_tree_5 (nI base') (nI kk) k2 (nI v) (nI (kk - j)) R1 = some (nI v', R1) := by
        intro j
        induction j with
        | zero =>
          intro k1 k2 v _ h1 h2 hv1 hv2
          match k1, k2, h1, h2 with
          | k1 + 1, k2 + 1, _, _ =>
            have e1 : nI 0 - 1 < 0 := by decide
            have e2 : nI kk ≤ nI (kk - 0) := by rw [Nat.sub_zero]; exact Int32.le_refl _
            rw [Nat.sub_zero] at hv1 hv2
            exact ⟨v, hv2, hv1, by simp only [Option.bind_some, ↓reduceIte, not_true_eq_false, not_false_eq_true, y_1, g_Mdl_codeTree_s_8, e1], by simp only [Option.bind_some, ↓reduceIte, not_true_eq_false, not_false_eq_true, y_1, g_R_tree_5, e2]⟩
        | succ j ih =>
          intro k1 k2 v hj h1 h2 hv1 hv2
          match k1, k2, h1, h2 with
          | k1 + 1, k2 + 1, h1, h2 =>
            have hp : 2 ^ (kk - (j + 1) + 1) = 2 ^ (kk - j) := by congr 1; omega
            have hp2 : 2 ^ (kk - j) = 2 * 2 ^ (kk - (j + 1)) := by rw [← hp, Nat.pow_succ, Nat.mul_comm]
            have hp5 : 2 ^ (kk - j + 1) = 2 * 2 ^ (kk - j) := by rw [Nat.pow_succ, Nat.mul_comm]
            rw [hp] at hv2
            have e1 : ¬ nI (j + 1) - 1 < 0 := by
              rw [show nI (j + 1) - 1 = nI j from y_sub (a := j + 1) (b := 1) (by omega)]
              intro q
              have := (y_lt (a := j) (b := 0) (by omega) (by omega)).mp q
              omega
            have e2 : ¬ nI kk ≤ nI (kk - (j + 1)) := fun q => by have := (y_le (by omega) (by omega)).mp q; omega
            have e3 : nI (j + 1) - 1 + (-1) = nI j - 1 := by
              rw [show nI (j + 1) - 1 = nI j from y_sub (a := j + 1) (b := 1) (by omega)]
              exact (Int32.sub_eq_add_neg _ _).symm
            have e4 : kk - (j + 1) + 1 = kk - j := by omega
            obtain ⟨v', w1, w2, w3, w4⟩ := ih k1 k2 (2 * v + 0) (by omega) (by omega) (by omega) (by omega) (by omega)
            refine ⟨v', w1, w2, ?_, ?_⟩
            · rw [g_Mdl_codeTree_s_8, if_neg e1, x_bitC _ _ t3.bC, Option.bind_some, e3, show (0 : Int32) = nI 0 from rfl, y_dbl]
              exact w3
            · rw [g_R_tree_5, if_neg e2, x_bitR _ t3.bR, Option.bind_some, y_1, e4, show (0 : Int32) = nI 0 from rfl, y_dbl]
              exact w4
      obtain ⟨v', w1, w2, w3, w4⟩ := dead j k1 k2 (2 * v + 0) (by omega) (by omega) (by omega) (by omega) (by omega)
      exact ⟨v', D1, R1, w1, w2, w3, w4, t3, t4⟩
theorem y_shl1 {b i : Nat} (hb : b ≤ 1) (hi : i ≤ 8) : zo_shl (nI b) (nI i) = nI (b * 2 ^ i) := by
  have h1 : b = 0 ∨ b = 1 := by omega
  have h2 : i = 0 ∨ i = 1 ∨ i = 2 ∨ i = 3 ∨ i = 4 ∨ i = 5 ∨ i = 6 ∨ i = 7 ∨ i = 8 := by omega
  rcases h1 with rfl | rfl <;> rcases h2 with rfl | rfl | rfl | rfl | rfl | rfl | rfl | rfl | rfl <;> rfl
theorem d_tree {n m g b e lc lp pb st base base' kk r c x : Nat} {Z : Nat → Nat} {D R : zx_D} (w : Int32) (hl : base + 2 ^ kk ≤ 2052 + 768 * 2 ^ (lc + lp)) (hk : kk ≤ 8) (hf : ∀ v, v < 2 ^ kk → zf (base + v) = base' + v) (h : zA n m g b r c x e lc lp pb st Z D R) (hcr : c < r) :
    (∃ t r' c' x' Z' D' R', t < 2 ^ kk ∧ g_Mdl_codeTree_s (nI base) (nI kk) w D = some (nI t, D') ∧ g_R_tree (nI base') (nI kk) R = some (nI t, R') ∧ zA n m g b r' c' x' e lc lp pb st Z' D' R' ∧ zQ D D' R R' ∧ c' < r' ∧ ∀ A ph, zPh A base ph kk → tot A Z' ≤ tot A Z + ph 1 kk) ∨
    (∃ t D' R', t < 2 ^ kk ∧ g_Mdl_codeTree_s (nI base) (nI kk) w D = some (nI t, D') ∧ g_R_tree (nI base') (nI kk) R = some (nI t, R') ∧ zX n m g b D' R' ∧ zQ D D' R R') := by
  have hp : 2 ^ (kk + 1) = 2 * 2 ^ kk := by rw [Nat.pow_succ, Nat.mul_comm]
  have hp4 : 2 ^ kk ≤ 2 ^ 8 := Nat.pow_le_pow_right (by omega) hk
  have e1 : zo_shl 1 (nI kk) = nI (2 ^ kk) := by
    have := y_shl1 (b := 1) (by omega) hk
    rw [Nat.one_mul] at this
    exact this
  have e0 : kk - kk = 0 := Nat.sub_self kk
  rcases d_treeL (nI kk) w hl hk hf kk 10000 10000 1 r c x Z D R (Nat.le_refl _) (by omega) (by omega) (by rw [e0]; exact Nat.le_refl _) (by rw [e0]; decide) h hcr with ⟨v', r', c', x', Z', D', R', u1, u2, u3, u4, u5, u6, u7, u8⟩ | ⟨v', D', R', u1, u2, u3, u4, u5, u6⟩
  · left
    rw [e0] at u4
    have u3 : g_Mdl_codeTree_s_8 (nI base) (nI kk) w 10000 1 (nI kk - 1) D = _ := u3
    have u4 : g_R_tree_5 (nI base') (nI kk) 10000 1 0 R = _ := u4
    refine ⟨v' - 2 ^ kk, r', c', x', Z', D', R', by omega, ?_, ?_, u5, u6, u7, u8⟩
    · simp only [Option.bind_some, ↓reduceIte, not_true_eq_false, not_false_eq_true, y_1, g_Mdl_codeTree_s, u3, e1, y_sub u1]
    · simp only [Option.bind_some, ↓reduceIte, not_true_eq_false, not_false_eq_true, y_1, g_R_tree, u4, e1, y_sub u1]
  · right
    rw [e0] at u4
    have u3 : g_Mdl_codeTree_s_8 (nI base) (nI kk) w 10000 1 (nI kk - 1) D = _ := u3
    have u4 : g_R_tree_5 (nI base') (nI kk) 10000 1 0 R = _ := u4
    refine ⟨v' - 2 ^ kk, D', R', by omega, ?_, ?_, u5, u6⟩
    · simp only [Option.bind_some, ↓reduceIte, not_true_eq_false, not_false_eq_true, y_1, g_Mdl_codeTree_s, u3, e1, y_sub u2]
    · simp only [Option.bind_some, ↓reduceIte, not_true_eq_false, not_false_eq_true, y_1, g_R_tree, u4, e1, y_sub u2]
theorem x_treeL (D R : zx_D) (base base' : Int32) (kk : Nat) (x2 x3 : Int32) (hk : kk ≤ 8) (hC : ¬ zg_i D 5 2 = 0) (hR : ¬ zg_i R 0 22 = 0) : ∀ (j k1 k2 v : Nat), j ≤ kk → j < k1 → j < k2 → 2 ^ (kk - j) ≤ v → v < 2 ^ (kk - j + 1) → ∃ v', v' < 2 ^ (kk + 1) ∧ 2 ^ kk ≤ v' ∧ g_Mdl_codeTree_s_8 base x2 x3 k1 (nI v) (nI j - 1) D = some (nI v', D) ∧ g_R_tree_5 base' (nI kk) k2 (nI v) (nI (kk - j)) R = some (nI v', R)
  | 0, k1 + 1, k2 + 1, v, _, _, _, hv1, hv2 => by
    have e1 : nI 0 - 1 < 0 := by decide
    have e2 : nI kk ≤ nI (kk - 0) := by rw [Nat.sub_zero]; exact Int32.le_refl _
    rw [Nat.sub_zero] at hv1 hv2
    exact ⟨v, hv2, hv1, by simp only [Option.bind_some, ↓reduceIte, not_true_eq_false, not_false_eq_true, y_1, g_Mdl_codeTree_s_8, e1], by simp only [Option.bind_some, ↓reduceIte, not_true_eq_false, not_false_eq_true, y_1, g_R_tree_5, e2]⟩
  | j + 1, k1 + 1, k2 + 1, v, hj, h1, h2, hv1, hv2 => by
    have hp : 2 ^ (kk - (j + 1) + 1) = 2 ^ (kk - j) := by congr 1; omega
    have hp2 : 2 ^ (kk - j) = 2 * 2 ^ (kk - (j + 1)) := by rw [← hp, Nat.pow_succ, Nat.mul_comm]
    have hp5 : 2 ^ (kk - j + 1) = 2 * 2 ^ (kk - j) := by rw [Nat.pow_succ, Nat.mul_comm]
    rw [hp] at hv2
    have e1 : ¬ nI (j + 1) - 1 < 0 := by
      rw [show nI (j + 1) - 1 = nI j from y_sub (a := j + 1) (b := 1) (by omega)]
      intro q
      have := (y_lt (a := j) (b := 0) (by omega) (by omega)).mp q
      omega
    have e2 : ¬ nI kk ≤ nI (kk - (j + 1)) := fun q => by have := (y_le (by omega) (by omega)).mp q; omega
    have e3 : nI (j + 1) - 1 + (-1) = nI j - 1 := by
      rw [show nI (j + 1) - 1 = nI j from y_sub (a := j + 1) (b := 1) (by omega)]
      exact (Int32.sub_eq_add_neg _ _).symm
    have e4 : kk - (j + 1) + 1 = kk - j := by omega
    obtain ⟨v', w1, w2, w3, w4⟩ := x_treeL D R base base' kk x2 x3 hk hC hR j k1 k2 (2 * v + 0) (by omega) (by omega) (by omega) (by omega) (by omega)
    refine ⟨v', w1, w2, ?_, ?_⟩
    · rw [g_Mdl_codeTree_s_8, if_neg e1, x_bitC _ _ hC, Option.bind_some, e3, show (0 : Int32) = nI 0 from rfl, y_dbl]
      exact w3
    · rw [g_R_tree_5, if_neg e2, x_bitR _ hR, Option.bind_some, y_1, e4, show (0 : Int32) = nI 0 from rfl, y_dbl]
      exact w4
theorem x_tree (D R : zx_D) (base base' : Int32) (kk : Nat) (w : Int32) (hk : kk ≤ 8) (hC : ¬ zg_i D 5 2 = 0) (hR : ¬ zg_i R 0 22 = 0) : ∃ t, t < 2 ^ kk ∧ g_Mdl_codeTree_s base (nI kk) w D = some (nI t, D) ∧ g_R_tree base' (nI kk) R = some (nI t, R) := by
  have hp : 2 ^ (kk + 1) = 2 * 2 ^ kk := by rw [Nat.pow_succ, Nat.mul_comm]
  have e1 : zo_shl 1 (nI kk) = nI (2 ^ kk) := by
    have := y_shl1 (b := 1) (by omega) hk
    rw [Nat.one_mul] at this
    exact this
  have e0 : kk - kk = 0 := Nat.sub_self kk
  obtain ⟨v', w1, w2, w3, w4⟩ := x_treeL D R base base' kk (nI kk) w hk hC hR kk 10000 10000 1 (Nat.le_refl _) (by omega) (by omega) (by rw [e0]; exact Nat.le_refl _) (by rw [e0]; decide)
  rw [e0] at w4
  have w3 : g_Mdl_codeTree_s_8 base (nI kk) w 10000 1 (nI kk - 1) D = _ := w3
  have w4 : g_R_tree_5 base' (nI kk) 10000 1 0 R = _ := w4
  exact ⟨v' - 2 ^ kk, by omega, by simp only [Option.bind_some, ↓reduceIte, not_true_eq_false, not_false_eq_true, y_1, g_Mdl_codeTree_s, w3, e1, y_sub w2], by simp only [Option.bind_some, ↓reduceIte, not_true_eq_false, not_false_eq_true, y_1, g_R_tree, w4, e1, y_sub w2]⟩
theorem y_oradd {u v i : Nat} (hu : u < 2 ^ i) (hv : v ≤ 1) (hi : i ≤ 8) : nI u ||| nI (v * 2 ^ i) = nI (u + v * 2 ^ i) := by
  have hp : 2 ^ i ≤ 2 ^ 8 := Nat.pow_le_pow_right (by omega) hi
  have hvi : v * 2 ^ i ≤ 2 ^ 8 := by
    have : v * 2 ^ i ≤ 1 * 2 ^ i := Nat.mul_le_mul_right _ hv
    omega
  apply Int32.toBitVec_inj.mp
  rw [Int32.toBitVec_or, y_ofNat_bv, y_ofNat_bv, y_ofNat_bv]
  apply BitVec.eq_of_toNat_eq
  rw [BitVec.toNat_or, BitVec.toNat_ofNat, BitVec.toNat_ofNat, BitVec.toNat_ofNat, Nat.mod_eq_of_lt (by omega), Nat.mod_eq_of_lt (by omega), Nat.mod_eq_of_lt (by omega)]
  rw [Nat.or_comm, Nat.mul_comm, Nat.add_comm]
  exact (Nat.two_pow_add_eq_or_of_lt hu v).symm
theorem d_backL {n m g b e lc lp pb st base base' kk : Nat} (x3 : Int32) (hl : base + 2 ^ kk ≤ 2052 + 768 * 2 ^ (lc + lp)) (hk : kk ≤ 8) (hf : ∀ v, v < 2 ^ kk → zf (base + v) = base' + v) : ∀ (j k1 k2 v u r c x : Nat) (Z : Nat → Nat) (D R : zx_D), j ≤ kk → j < k1 → j < k2 → 2 ^ (kk - j) ≤ v → v < 2 ^ (kk - j + 1) → u < 2 ^ (kk - j) → zA n m g b r c x e lc lp pb st Z D R → c < r →
    (∃ u' r' c' x' Z' D' R', u' < 2 ^ kk ∧ g_Mdl_codeTreeBackwards_s_9 (nI base) (nI kk) x3 k1 (nI v) (nI u) (nI (kk - j)) D = some (nI u', D') ∧ g_R_backwards_8 (nI base') (nI kk) k2 (nI v) (nI u) (nI (kk - j)) R = some (nI u', R') ∧ zA n m g b r' c' x' e lc lp pb st Z' D' R' ∧ zQ D D' R R' ∧ c' < r' ∧ ∀ A ph, zPh A base ph kk → tot A Z' ≤ tot A Z + ph v j) ∨
    (∃ u' D' R', u' < 2 ^ kk ∧ g_Mdl_codeTreeBackwards_s_9 (nI base) (nI kk) x3 k1 (nI v) (nI u) (nI (kk - j)) D = some (nI u', D') ∧ g_R_backwards_8 (nI base') (nI kk) k2 (nI v) (nI u) (nI (kk - j)) R = some (nI u', R') ∧ zX n m g b D' R' ∧ zQ D D' R R')
  | 0, k1 + 1, k2 + 1, v, u, r, c, x, Z, D, R, _, _, _, hv1, hv2, hu, h, hcr => by
    left
    have e2 : nI kk ≤ nI (kk - 0) := by rw [Nat.sub_zero]; exact Int32.le_refl _
    rw [Nat.sub_zero] at hu
    exact ⟨u, r, c, x, Z, D, R, hu, by simp only [Option.bind_some, ↓reduceIte, not_true_eq_false, not_false_eq_true, y_1, g_Mdl_codeTreeBackwards_s_9, e2], by simp only [Option.bind_some, ↓reduceIte, not_true_eq_false, not_false_eq_true, y_1, g_R_backwards_8, e2], h, zQ_rfl, hcr, fun A ph _ => Nat.le_add_right _ _⟩
  | j + 1, k1 + 1, k2 + 1, v, u, r, c, x, Z, D, R, hj, h1, h2, hv1, hv2, hu, h, hcr => by
    have hp : 2 ^ (kk - (j + 1) + 1) = 2 ^ (kk - j) := by congr 1; omega
    have hp2 : 2 ^ (kk - j) = 2 * 2 ^ (kk - (j + 1)) := by rw [← hp, Nat.pow_succ, Nat.mul_comm]
    have hp3 : 2 ^ (kk - j) ≤ 2 ^ kk := Nat.pow_le_pow_right (by omega) (by omega)
    have hp4 : 2 ^ kk ≤ 2 ^ 8 := Nat.pow_le_pow_right (by omega) hk
    have hp5 : 2 ^ (kk - j + 1) = 2 * 2 ^ (kk - j) := by rw [Nat.pow_succ, Nat.mul_comm]
    rw [hp] at hv2
    have hvk : v < 2 ^ kk := by omega
    have e2 : ¬ nI kk ≤ nI (kk - (j + 1)) := fun q => by have := (y_le (by omega) (by omega)).mp q; omega
    have e4 : kk - (j + 1) + 1 = kk - j := by omega
    have e5 : nI base' + nI v = nI (zf (base + v)) := by rw [y_add, hf v hvk]
    have sh : ∀ bit, bit ≤ 1 → zo_shl (nI bit) (nI (kk - (j + 1))) = nI (bit * 2 ^ (kk - (j + 1))) := fun bit hb => y_shl1 hb (by omega)
    have hub : ∀ bit, bit ≤ 1 → u + bit * 2 ^ (kk - (j + 1)) < 2 ^ (kk - j) := by
      intro bit hb
      have : bit * 2 ^ (kk - (j + 1)) ≤ 1 * 2 ^ (kk - (j + 1)) := Nat.mul_le_mul_right _ hb
      omega
    rcases d_bit h (Or.inl hcr) (k := base + v) (by omega) (zo_ushr x3 (nI (kk - (j + 1))) &&& 1) with ⟨r1, c1, x1, Z1, bit, D1, R1, t1, t2, t3, t4, t5, t6, t7⟩ | ⟨D1, R1, t1, t2, t3, t4⟩
    · have hbit : bit ≤ 1 := by omega
      have E1 : g_Mdl_codeTreeBackwards_s_9 (nI base) (nI kk) x3 (k1 + 1) (nI v) (nI u) (nI (kk - (j + 1))) D = g_Mdl_codeTreeBackwards_s_9 (nI base) (nI kk) x3 k1 (nI (2 * v + bit)) (nI (u + bit * 2 ^ (kk - (j + 1)))) (nI (kk - j)) D1 := by
        rw [g_Mdl_codeTreeBackwards_s_9, if_neg e2, y_add, t1, Option.bind_some, y_dbl, sh bit hbit, y_add, y_1, e4]
      have E2 : g_R_backwards_8 (nI base') (nI kk) (k2 + 1) (nI v) (nI u) (nI (kk - (j + 1))) R = g_R_backwards_8 (nI base') (nI kk) k2 (nI (2 * v + bit)) (nI (u + bit * 2 ^ (kk - (j + 1)))) (nI (kk - j)) R1 := by
        rw [g_R_backwards_8, if_neg e2, e5, t2, Option.bind_some, y_dbl, sh bit hbit, y_oradd hu hbit (by omega), y_1, e4]
      rw [E1, E2]
      rcases d_backL x3 hl hk hf j k1 k2 (2 * v + bit) (u + bit * 2 ^ (kk - (j + 1))) r1 c1 x1 Z1 D1 R1 (by omega) (by omega) (by omega) (by omega) (by omega) (hub bit hbit) t3 (t6 hcr) with ⟨v', r', c', x', Z', D', R', u1, u3, u4, u5, u6, u7, u8⟩ | ⟨v', D', R', u1, u3, u4, u5, u6⟩
      · left
        refine ⟨v', r', c', x', Z', D', R', u1, u3, u4, u5, t4.trans u6, u7, fun A ph hph => ?_⟩
        have w1 := u8 A ph hph
        obtain ⟨w2, w3⟩ := hph.2 v j (by omega) hv1 hv2
        rcases t5 with ⟨q1, q2⟩ | ⟨q1, q2⟩
        · subst q1
          rw [q2, tot_put hph.1] at w1
          rw [Nat.add_zero] at w1
          omega
        · subst q1
          rw [q2] at w1
          omega
      · exact Or.inr ⟨v', D', R', u1, u3, u4, u5, t4.trans u6⟩
    · right
      have dead : ∀ (j k1 k2 v u : Nat), j ≤ kk → j < k1 → j < k2 → u < 2 ^ (kk - j) → g_Mdl_codeTreeBackwards_s_9 (nI base) (nI kk) x3 k1 (nI v) (nI u) (nI (kk - j)) D1 = some (nI u, D1) ∧ g_R_backwards_8 (nI base') (nI kk) k2 (nI v) (nI u) (nI (kk - j)) R1 = some (nI u, R1) := by
        intro j
        induction j with
        | zero =>
          intro k1 k2 v u _ h1 h2 _
          match k1, k2, h1, h2 with
          | k1 + 1, k2 + 1, _, _ =>
            have e2 : nI kk ≤ nI (kk - 0) := by rw [Nat.sub_zero]; exact Int32.le_refl _
            exact ⟨by simp only [Option.bind_some, ↓reduceIte, not_true_eq_false, not_false_eq_true, y_1, g_Mdl_codeTreeBackwards_s_9, e2], by simp only [Option.bind_some, ↓reduceIte, not_true_eq_false, not_false_eq_true, y_1, g_R_backwards_8, e2]⟩
        | succ j ih =>
          intro k1 k2 v u hj h1 h2 hu
          match k1, k2, h1, h2 with
          | k1 + 1, k2 + 1, h1, h2 =>
            have hp : 2 ^ (kk - (j + 1) + 1) = 2 ^ (kk - j) := by congr 1; omega
            have hp2 : 2 ^ (kk - j) = 2 * 2 ^ (kk - (j + 1)) := by rw [← hp, Nat.pow_succ, Nat.mul_comm]
            have e2 : ¬ nI kk ≤ nI (kk - (j + 1)) := fun q => by have := (y_le (by omega) (by omega)).mp q; omega
            have e4 : kk - (j + 1) + 1 = kk - j := by omega
            have s0 : zo_shl 0 (nI (kk - (j + 1))) = nI (0 * 2 ^ (kk - (j + 1))) := y_shl1 (b := 0) (by omega) (by omega)
            obtain ⟨w3, w4⟩ := ih k1 k2 (2 * v + 0) (u + 0 * 2 ^ (kk - (j + 1))) (by omega) (by omega) (by omega) (by omega)
            have eu : u + 0 * 2 ^ (kk - (j + 1)) = u := by omega
            constructor
            · rw [g_Mdl_codeTreeBackwards_s_9, if_neg e2, x_bitC _ _ t3.bC, Option.bind_some]
              simp only [s0, y_add, y_1, e4]
              rw [show (0 : Int32) = nI 0 from rfl, y_dbl, w3, eu]
            · rw [g_R_backwards_8, if_neg e2, x_bitR _ t3.bR, Option.bind_some]
              simp only [s0, y_1, e4]
              rw [y_oradd hu (by omega) (by omega), show (0 : Int32) = nI 0 from rfl, y_dbl, w4, eu]
      have s0 : zo_shl 0 (nI (kk - (j + 1))) = nI (0 * 2 ^ (kk - (j + 1))) := sh 0 (by omega)
      obtain ⟨w3, w4⟩ := dead j k1 k2 (2 * v + 0) (u + 0 * 2 ^ (kk - (j + 1))) (by omega) (by omega) (by omega) (hub 0 (by omega))
      have hb0 := hub 0 (by omega)
      refine ⟨u + 0 * 2 ^ (kk - (j + 1)), D1, R1, by omega, ?_, ?_, t3, t4⟩
      · rw [g_Mdl_codeTreeBackwards_s_9, if_neg e2, y_add, t1, Option.bind_some]
        simp only [s0, y_add, y_1, e4]
        rw [show (0 : Int32) = nI 0 from rfl, y_dbl]
        exact w3
      · rw [g_R_backwards_8, if_neg e2, e5, t2, Option.bind_some]
        simp only [s0, y_1, e4]
        rw [y_oradd hu (by omega) (by omega), show (0 : Int32) = nI 0 from rfl, y_dbl]
        exact w4
theorem d_back {n m g b e lc lp pb st base base' kk r c x : Nat} {Z : Nat → Nat} {D R : zx_D} (w : Int32) (hl : base + 2 ^ kk ≤ 2052 + 768 * 2 ^ (lc + lp)) (hk : kk ≤ 8) (hf : ∀ v, v < 2 ^ kk → zf (base + v) = base' + v) (h : zA n m g b r c x e lc lp pb st Z D R) (hcr : c < r) :
    (∃ t r' c' x' Z' D' R', t < 2 ^ kk ∧ g_Mdl_codeTreeBackwards_s (nI base) (nI kk) w D = some (nI t, D') ∧ g_R_backwards (nI base') (nI kk) R = some (nI t, R') ∧ zA n m g b r' c' x' e lc lp pb st Z' D' R' ∧ zQ D D' R R' ∧ c' < r' ∧ ∀ A ph, zPh A base ph kk → tot A Z' ≤ tot A Z + ph 1 kk) ∨
    (∃ t D' R', t < 2 ^ kk ∧ g_Mdl_codeTreeBackwards_s (nI base) (nI kk) w D = some (nI t, D') ∧ g_R_backwards (nI base') (nI kk) R = some (nI t, R') ∧ zX n m g b D' R' ∧ zQ D D' R R') := by
  have e0 : kk - kk = 0 := Nat.sub_self kk
  rcases d_backL w hl hk hf kk 10000 10000 1 0 r c x Z D R (Nat.le_refl _) (by omega) (by omega) (by rw [e0]; exact Nat.le_refl _) (by rw [e0]; decide) (by rw [e0]; decide) h hcr with ⟨v', r', c', x', Z', D', R', u1, u3, u4, u5, u6, u7, u8⟩ | ⟨v', D', R', u1, u3, u4, u5, u6⟩
  · left
    rw [e0] at u3 u4
    have u3 : g_Mdl_codeTreeBackwards_s_9 (nI base) (nI kk) w 10000 1 0 0 D = _ := u3
    have u4 : g_R_backwards_8 (nI base') (nI kk) 10000 1 0 0 R = _ := u4
    exact ⟨v', r', c', x', Z', D', R', u1, by simp only [Option.bind_some, ↓reduceIte, not_true_eq_false, not_false_eq_true, y_1, g_Mdl_codeTreeBackwards_s, u3], by simp only [Option.bind_some, ↓reduceIte, not_true_eq_false, not_false_eq_true, y_1, g_R_backwards, u4], u5, u6, u7, u8⟩
  · right
    rw [e0] at u3 u4
    have u3 : g_Mdl_codeTreeBackwards_s_9 (nI base) (nI kk) w 10000 1 0 0 D = _ := u3
    have u4 : g_R_backwards_8 (nI base') (nI kk) 10000 1 0 0 R = _ := u4
    exact ⟨v', D', R', u1, by simp only [Option.bind_some, ↓reduceIte, not_true_eq_false, not_false_eq_true, y_1, g_Mdl_codeTreeBackwards_s, u3], by simp only [Option.bind_some, ↓reduceIte, not_true_eq_false, not_false_eq_true, y_1, g_R_backwards, u4], u5, u6⟩
theorem x_backL (D R : zx_D) (base base' : Int32) (kk : Nat) (x3 : Int32) (hk : kk ≤ 31) (hC : ¬ zg_i D 5 2 = 0) (hR : ¬ zg_i R 0 22 = 0) : ∀ (j k1 k2 : Nat) (v v2 u u2 : Int32), j ≤ kk → j < k1 → j < k2 → ∃ u', g_Mdl_codeTreeBackwards_s_9 base (nI kk) x3 k1 v u (nI (kk - j)) D = some (u', D) ∧ ∃ u'', g_R_backwards_8 base' (nI kk) k2 v2 u2 (nI (kk - j)) R = some (u'', R)
  | 0, k1 + 1, k2 + 1, v, v2, u, u2, _, _, _ => by
    have e2 : nI kk ≤ nI (kk - 0) := by rw [Nat.sub_zero]; exact Int32.le_refl _
    exact ⟨u, by simp only [Option.bind_some, ↓reduceIte, not_true_eq_false, not_false_eq_true, y_1, g_Mdl_codeTreeBackwards_s_9, e2], u2, by simp only [Option.bind_some, ↓reduceIte, not_true_eq_false, not_false_eq_true, y_1, g_R_backwards_8, e2]⟩
  | j + 1, k1 + 1, k2 + 1, v, v2, u, u2, hj, h1, h2 => by
    have e2 : ¬ nI kk ≤ nI (kk - (j + 1)) := fun q => by have := (y_le (by omega) (by omega)).mp q; omega
    have e4 : kk - (j + 1) + 1 = kk - j := by omega
    obtain ⟨u', w3, u'', w4⟩ := x_backL D R base base' kk x3 hk hC hR j k1 k2 (2 * v + 0) (2 * v2 + 0) (u + zo_shl 0 (nI (kk - (j + 1)))) (u2 ||| zo_shl 0 (nI (kk - (j + 1)))) (by omega) (by omega) (by omega)
    refine ⟨u', ?_, u'', ?_⟩
    · rw [g_Mdl_codeTreeBackwards_s_9, if_neg e2, x_bitC _ _ hC, Option.bind_some, y_1, e4]
      exact w3
    · rw [g_R_backwards_8, if_neg e2, x_bitR _ hR, Option.bind_some, y_1, e4]
      exact w4
theorem x_back (D R : zx_D) (base base' : Int32) (kk : Nat) (w : Int32) (hk : kk ≤ 31) (hC : ¬ zg_i D 5 2 = 0) (hR : ¬ zg_i R 0 22 = 0) : ∃ u u', g_Mdl_codeTreeBackwards_s base (nI kk) w D = some (u, D) ∧ g_R_backwards base' (nI kk) R = some (u', R) := by
  obtain ⟨u', w3, u'', w4⟩ := x_backL D R base base' kk w hk hC hR kk 10000 10000 1 1 0 0 (Nat.le_refl _) (by omega) (by omega)
  rw [Nat.sub_self] at w3 w4
  have w3 : g_Mdl_codeTreeBackwards_s_9 base (nI kk) w 10000 1 0 0 D = _ := w3
  have w4 : g_R_backwards_8 base' (nI kk) 10000 1 0 0 R = _ := w4
  exact ⟨u', u'', by simp only [Option.bind_some, ↓reduceIte, not_true_eq_false, not_false_eq_true, y_1, g_Mdl_codeTreeBackwards_s, w3], by simp only [Option.bind_some, ↓reduceIte, not_true_eq_false, not_false_eq_true, y_1, g_R_backwards, w4]⟩
