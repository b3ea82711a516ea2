theorem s_vliL {n m g b e a : Nat} {D R : zx_D} (h : zS n m g b e a D R) (w : Int32) (hw : w = if e = m then -2 else -3) : ∀ (j i k1 k2 : Nat) (v : Int64), i + j = 9 → j < k1 → j < k2 → a + i ≤ e → y_P v →
    (∃ v' a', a < a' ∧ a' ≤ e ∧ y_P v' ∧ g_Cur_readNumber_4 k1 v (nI i) D = some (v', zp_i D 12 3 (nI a')) ∧ g_R_vli_11 (nI e) w (nI a) k2 v (nI i) (zp_i R 0 28 (nI (a + i))) = some (v', zp_i R 0 28 (nI a'))) ∨
    (∃ u u' D' R', g_Cur_readNumber_4 k1 v (nI i) D = some (u, D') ∧ g_R_vli_11 (nI e) w (nI a) k2 v (nI i) (zp_i R 0 28 (nI (a + i))) = some (u', R') ∧ zF n m g b D' R')
  | 0, i, k1 + 1, k2 + 1, v, hi, _, _, ha, hv => by
    right
    have e9 : (9 : Int32) ≤ nI i := (y_le (a := 9) (by omega) (by omega)).mpr (by omega)
    have f0 : zg_i (zp_i R 0 28 (nI (a + i))) 0 29 = 0 := h.f
    have E1 : g_Cur_readNumber_4 (k1 + 1) v (nI i) D = some (-1, zp_i (zp_i D 12 4 (-3)) 12 5 (nI a)) := by simp only [Option.bind_some, ↓reduceIte, not_true_eq_false, not_false_eq_true, y_1, g_Cur_readNumber_4, e9, h.nC, c_fail1 _ _ h.c]
    have E2 : g_R_vli_11 (nI e) w (nI a) (k2 + 1) v (nI i) (zp_i R 0 28 (nI (a + i))) = some (0, zp_i (zp_i (zp_i R 0 28 (nI (a + i))) 0 30 (nI a)) 0 29 (-3)) := by simp only [Option.bind_some, ↓reduceIte, not_true_eq_false, not_false_eq_true, y_1, g_R_vli_11, e9, r_fail1 _ _ f0]
    exact ⟨_, _, _, _, E1, E2, ⟨⟨h.v.hn, h.v.hm, h.v.pC, h.v.pR, h.v.pB, h.v.kC, h.v.kR, h.v.kB, h.v.sz, rfl, rfl, h.v.wa, h.v.lo, h.v.kr, h.v.kc, h.v.c0, h.v.cs, h.v.en, h.v.hg, h.v.gC, h.v.gR, h.v.gB, h.v.bR, h.v.bC, h.v.bS⟩, (by decide : (-3 : Int32) ≠ 0), a, Nat.le_trans h.ae h.em, h.nC⟩⟩
  | j + 1, i, k1 + 1, k2 + 1, v, hi, h1, h2, ha, hv => by
    have hm := h.v.hm
    have hem := h.em
    have e9 : ¬ (9 : Int32) ≤ nI i := fun q => by have := (y_le (a := 9) (by omega) (by omega)).mp q; omega
    have f0 : zg_i (zp_i R 0 28 (nI (a + i))) 0 29 = 0 := h.f
    have f28 : zg_i (zp_i R 0 28 (nI (a + i))) 0 28 = nI (a + i) := rfl
    by_cases hx : a + i < e
    · obtain ⟨b1, c, hc, b2⟩ := h.v.kB (a + i) (by omega)
      have b3 : zg_i (zp_i R 0 28 (nI (a + i))) 2 (a + i) = nI c := b2
      have z1 : zk_in (nI (a + i)) 640 = true := y_in (by omega) (by omega)
      have z2 : zn (nI (a + i)) = a + i := y_zn (by omega)
      have z3 : nI (a + i) < nI e := (y_lt (by omega) (by omega)).mpr hx
      have z4 : ¬ (1 : Int32) = 0 := by decide
      have hv' : y_P (v ||| zo_lshl ((nI c &&& 127).toInt64) (7 * nI i)) := y_P_or hv (y_P_7 ⟨c, hc, rfl⟩ (by omega))
      have hh := c_has1 h (k := i + 1) (by omega)
      by_cases h128 : 128 ≤ c
      · have q1 : (128 : Int32) ≤ nI c := (y_le (a := 128) (by omega) (by omega)).mpr h128
        have q2 : ¬ nI c = 0 := fun q => by have := (y_eq (b := 0) (by omega) (by omega)).mp q; omega
        have E1 : g_Cur_readNumber_4 (k1 + 1) v (nI i) D = g_Cur_readNumber_4 k1 (v ||| zo_lshl ((nI c &&& 127).toInt64) (7 * nI i)) (nI (i + 1)) D := by
          simp only [Option.bind_some, ↓reduceIte, not_true_eq_false, not_false_eq_true, y_1, g_Cur_readNumber_4, e9, hh, z4, h.nC, y_add, z1, z2, b1, b2, q1, q2]
        have E2 : g_R_vli_11 (nI e) w (nI a) (k2 + 1) v (nI i) (zp_i R 0 28 (nI (a + i))) = g_R_vli_11 (nI e) w (nI a) k2 (v ||| zo_lshl ((nI c &&& 127).toInt64) (7 * nI i)) (nI (i + 1)) (zp_i R 0 28 (nI (a + (i + 1)))) := by
          simp only [Option.bind_some, ↓reduceIte, not_true_eq_false, not_false_eq_true, y_1, g_R_vli_11, e9, f0, f28, z1, z2, z3, b3, q1, y_pp, Nat.add_assoc]
        rw [E1, E2]
        exact s_vliL h w hw j (i + 1) k1 k2 _ (by omega) (by omega) (by omega) (by omega) hv'
      · have q1 : ¬ (128 : Int32) ≤ nI c := fun q => h128 ((y_le (a := 128) (by omega) (by omega)).mp q)
        by_cases h0 : c = 0
        · have q2 : nI c = 0 := by rw [h0]; rfl
          by_cases hi0 : i = 0
          · left
            have q3 : nI i ≤ 0 := by rw [hi0]; decide
            refine ⟨_, a + (i + 1), by omega, by omega, hv', ?_, ?_⟩
            · simp only [Option.bind_some, ↓reduceIte, not_true_eq_false, not_false_eq_true, y_1, g_Cur_readNumber_4, e9, hh, z4, h.nC, y_add, z1, z2, b1, b2, q1, q2, q3]
              rw [← q2, if_neg q1]
            · simp only [Option.bind_some, ↓reduceIte, not_true_eq_false, not_false_eq_true, y_1, g_R_vli_11, e9, f0, f28, z1, z2, z3, b3, q1, q2, q3, y_pp, Nat.add_assoc]
              rw [← q2, if_neg q1]
          · right
            have q3 : ¬ nI i ≤ 0 := fun q => by have := (y_le (b := 0) (by omega) (by omega)).mp q; omega
            have E1 : g_Cur_readNumber_4 (k1 + 1) v (nI i) D = some (-1, zp_i (zp_i D 12 4 (-3)) 12 5 (nI a)) := by
              simp only [Option.bind_some, ↓reduceIte, not_true_eq_false, not_false_eq_true, y_1, g_Cur_readNumber_4, e9, hh, z4, h.nC, y_add, z1, z2, b1, b2, q1, q2, q3, c_fail1 _ _ h.c]
            have E2 : g_R_vli_11 (nI e) w (nI a) (k2 + 1) v (nI i) (zp_i R 0 28 (nI (a + i))) = some (v ||| zo_lshl ((nI c &&& 127).toInt64) (7 * nI i), zp_i (zp_i (zp_i R 0 28 (nI (a + (i + 1)))) 0 30 (nI a)) 0 29 (-3)) := by
              have f1 : zg_i (zp_i R 0 28 (nI (a + (i + 1)))) 0 29 = 0 := h.f
              simp only [Option.bind_some, ↓reduceIte, not_true_eq_false, not_false_eq_true, y_1, g_R_vli_11, e9, f0, f28, z1, z2, z3, b3, q1, q3, y_pp, Nat.add_assoc, r_fail1 _ _ f1]
              rw [if_neg (fun q => q q2)]
            exact ⟨_, _, _, _, E1, E2, ⟨⟨h.v.hn, h.v.hm, h.v.pC, h.v.pR, h.v.pB, h.v.kC, h.v.kR, h.v.kB, h.v.sz, rfl, rfl, h.v.wa, h.v.lo, h.v.kr, h.v.kc, h.v.c0, h.v.cs, h.v.en, h.v.hg, h.v.gC, h.v.gR, h.v.gB, h.v.bR, h.v.bC, h.v.bS⟩, (by decide : (-3 : Int32) ≠ 0), a, Nat.le_trans h.ae h.em, h.nC⟩⟩
        · have q2 : ¬ nI c = 0 := fun q => h0 ((y_eq (b := 0) (by omega) (by omega)).mp q)
          left
          refine ⟨_, a + (i + 1), by omega, by omega, hv', ?_, ?_⟩
          · simp only [Option.bind_some, ↓reduceIte, not_true_eq_false, not_false_eq_true, y_1, g_Cur_readNumber_4, e9, hh, z4, h.nC, y_add, z1, z2, b1, b2, q1, q2]
          · simp only [Option.bind_some, ↓reduceIte, not_true_eq_false, not_false_eq_true, y_1, g_R_vli_11, e9, f0, f28, z1, z2, z3, b3, q1, q2, y_pp, Nat.add_assoc]
    · right
      have q0 : ¬ (if e = m then (-2 : Int32) else -3) = 0 := by split <;> decide
      have hh := c_has2 h (k := i + 1) (by omega) (by omega)
      have z3 : ¬ nI (a + i) < nI e := fun q => hx ((y_lt (by omega) (by omega)).mp q)
      have E1 : g_Cur_readNumber_4 (k1 + 1) v (nI i) D = some (-1, zp_i (zp_i D 12 4 (if e = m then -2 else -3)) 12 5 (nI a)) := by
        rw [g_Cur_readNumber_4, if_neg e9, y_1, hh]
        generalize hw2 : (if e = m then (-2 : Int32) else -3) = w2 at q0 ⊢
        have := c_fail0 (D := zp_i (zp_i D 12 4 w2) 12 5 (nI a)) (-3) (zg_i (zp_i (zp_i D 12 4 w2) 12 5 (nI a)) 12 3) q0
        simp only [Option.bind_some, ↓reduceIte, not_true_eq_false, not_false_eq_true, y_1, this]
      have E2 : g_R_vli_11 (nI e) w (nI a) (k2 + 1) v (nI i) (zp_i R 0 28 (nI (a + i))) = some (0, zp_i (zp_i (zp_i R 0 28 (nI (a + i))) 0 30 (nI a)) 0 29 w) := by
        simp only [Option.bind_some, ↓reduceIte, not_true_eq_false, not_false_eq_true, y_1, g_R_vli_11, e9, f0, f28, z3, r_fail1 _ _ f0]
      exact ⟨_, _, _, _, E1, E2, ⟨⟨h.v.hn, h.v.hm, h.v.pC, h.v.pR, h.v.pB, h.v.kC, h.v.kR, h.v.kB, h.v.sz, hw.symm, rfl, h.v.wa, h.v.lo, h.v.kr, h.v.kc, h.v.c0, h.v.cs, h.v.en, h.v.hg, h.v.gC, h.v.gR, h.v.gB, h.v.bR, h.v.bC, h.v.bS⟩, by
        show w ≠ 0
        rw [hw]
        exact q0, a, Nat.le_trans h.ae h.em, h.nC⟩⟩
theorem s_vli {n m g b e a : Nat} {D R : zx_D} (h : zS n m g b e a D R) (w : Int32) (hw : w = if e = m then -2 else -3) :
    (∃ v' a', a < a' ∧ a' ≤ e ∧ y_P v' ∧ g_Cur_readNumber D = some (v', zp_i D 12 3 (nI a')) ∧ g_R_vli (nI e) w R = some (v', zp_i R 0 28 (nI a'))) ∨
    (∃ u u' D' R', g_Cur_readNumber D = some (u, D') ∧ g_R_vli (nI e) w R = some (u', R') ∧ zF n m g b D' R') := by
  have key := s_vliL h w hw 9 0 10000 10000 0 rfl (by omega) (by omega) (by have := h.ae; omega) (by unfold y_P; decide)
  rw [Nat.add_zero, y_same' h.nR] at key
  rw [g_Cur_readNumber, g_R_vli, h.nR]
  exact key
theorem s_exp {n m g b a : Nat} {D R : zx_D} (h : zS n m g b m a D R) (x : Int32) :
    (∃ a', a < a' ∧ a' ≤ m ∧ g_Cur_expectNumber x.toInt64 D = some (zp_i D 12 3 (nI a')) ∧ g_R_expect x R = some (zp_i R 0 28 (nI a'))) ∨
    (∃ D' R', g_Cur_expectNumber x.toInt64 D = some D' ∧ g_R_expect x R = some R' ∧ zF n m g b D' R') := by
  rcases s_vli h (-2) (by rw [if_pos rfl]) with ⟨v, a', h1, h2, hv, e1, e2⟩ | ⟨u, u', D', R', e1, e2, hF⟩
  · by_cases hx : v = x.toInt64
    · exact Or.inl ⟨a', h1, h2, by simp only [Option.bind_some, ↓reduceIte, not_true_eq_false, not_false_eq_true, y_1, g_Cur_expectNumber, e1, hx], by simp only [Option.bind_some, ↓reduceIte, not_true_eq_false, not_false_eq_true, y_1, g_R_expect, h.f, h.v.kR, e2, hx]⟩
    · have f1 : zg_i (zp_i D 12 3 (nI a')) 12 4 = 0 := h.c
      have f2 : zg_i (zp_i R 0 28 (nI a')) 0 29 = 0 := h.f
      have E1 : g_Cur_expectNumber x.toInt64 D = some (zp_i (zp_i (zp_i D 12 3 (nI a')) 12 4 (-3)) 12 5 (nI a)) := by simp only [Option.bind_some, ↓reduceIte, not_true_eq_false, not_false_eq_true, y_1, g_Cur_expectNumber, e1, hx, c_fail1 _ _ f1, h.nC]
      have E2 : g_R_expect x R = some (zp_i (zp_i (zp_i R 0 28 (nI a')) 0 30 (nI a)) 0 29 (-3)) := by simp only [Option.bind_some, ↓reduceIte, not_true_eq_false, not_false_eq_true, y_1, g_R_expect, h.f, h.v.kR, e2, hx, r_fail1 _ _ f2, h.nR]
      exact Or.inr ⟨_, _, E1, E2, (h.go h2).fail _ (by decide)⟩
  · right
    refine ⟨D', R', ?_, ?_, hF⟩
    · rw [g_Cur_expectNumber, e1]
      by_cases hx : u = x.toInt64
      · simp only [Option.bind_some, ↓reduceIte, not_true_eq_false, not_false_eq_true, y_1, hx]
      · simp only [Option.bind_some, ↓reduceIte, not_true_eq_false, not_false_eq_true, y_1, hx, c_fail0 _ _ hF.c]
    · rw [g_R_expect, if_neg (fun q => q h.f), h.v.kR, e2]
      by_cases hx : u' = x.toInt64
      · simp only [Option.bind_some, ↓reduceIte, not_true_eq_false, not_false_eq_true, y_1, hx]
      · simp only [Option.bind_some, ↓reduceIte, not_true_eq_false, not_false_eq_true, y_1, hx, r_fail0 _ _ hF.f]
theorem c_ebE {n m g b e a : Nat} {D R : zx_D} (h : zS n m g b e a D R) (x : Int32) (ha : a < e) : g_Cur_expectByte x D = if zg_i R 2 a = x then some (zp_i D 12 3 (nI (a + 1))) else some (zp_i (zp_i D 12 4 (-3)) 12 5 (nI a)) := by
  have hm := h.v.hm
  have hem := h.em
  obtain ⟨b1, b2⟩ := h.v.kB a (by omega)
  have hh : g_Cur_has 1 D = some (1, D) := c_has1 h (k := 1) (by omega)
  have z1 : zk_in (nI a) 640 = true := y_in (by omega) (by omega)
  have z2 : zn (nI a) = a := y_zn (by omega)
  have z4 : ¬ (1 : Int32) = 0 := by decide
  rw [g_Cur_expectByte, g_Cur_expectWithin, hh]
  by_cases hx : zg_i R 2 a = x
  · have l1 : ¬ zg_i R 2 a < x := by rw [hx]; exact Int32.lt_irrefl
    have l2 : zg_i R 2 a ≤ x := by rw [hx]; exact Int32.le_refl x
    simp only [Option.bind_some, ↓reduceIte, not_true_eq_false, not_false_eq_true, y_1, z4, h.nC, z1, z2, b1, l1, l2, hx]
    rw [← hx, if_neg (by rw [hx]; exact Int32.lt_irrefl), if_pos (Int32.le_refl _)]
    rfl
  · by_cases hl : zg_i R 2 a < x
    · simp only [Option.bind_some, ↓reduceIte, not_true_eq_false, not_false_eq_true, y_1, z4, h.nC, z1, z2, b1, hl, hx, c_fail1 _ _ h.c]
    · have l2 : ¬ zg_i R 2 a ≤ x := fun q => hx (Int32.le_antisymm q (Int32.not_lt.mp hl))
      simp only [Option.bind_some, ↓reduceIte, not_true_eq_false, not_false_eq_true, y_1, z4, h.nC, z1, z2, b1, hl, l2, hx, c_fail1 _ _ h.c]
theorem c_ebN {n m g b e a : Nat} {D R : zx_D} (h : zS n m g b e a D R) (x : Int32) (ha : e ≤ a) : g_Cur_expectByte x D = some (zp_i (zp_i D 12 4 (if e = m then -2 else -3)) 12 5 (nI a)) := by
  have hh : g_Cur_has 1 D = _ := c_has2 h (k := 1) (by omega) (by omega)
  rw [g_Cur_expectByte, g_Cur_expectWithin, hh]
  simp only [Option.bind_some, ↓reduceIte, not_true_eq_false, not_false_eq_true, y_1]
theorem c_ef0L {D : zx_D} (x : Int32) (h : ¬ zg_i D 12 4 = 0) : ∀ (j k i : Nat), j < k → i + j = 3 → g_Cur_expectFilling_2 x k (nI i) D = some D
  | 0, k + 1, i, _, hi => by
    have e3 : (3 : Int32) ≤ nI i := (y_le (a := 3) (by omega) (by omega)).mpr (by omega)
    simp only [Option.bind_some, ↓reduceIte, not_true_eq_false, not_false_eq_true, y_1, g_Cur_expectFilling_2, e3]
  | j + 1, k + 1, i, hk, hi => by
    have e3 : ¬ (3 : Int32) ≤ nI i := fun q => by have := (y_le (a := 3) (by omega) (by omega)).mp q; omega
    by_cases hz : zo_rem (zg_i D 12 3 - x) 4 = 0
    · simp only [Option.bind_some, ↓reduceIte, not_true_eq_false, not_false_eq_true, y_1, g_Cur_expectFilling_2, e3, hz]
    · simp only [Option.bind_some, ↓reduceIte, not_true_eq_false, not_false_eq_true, y_1, g_Cur_expectFilling_2, e3, hz, c_eb0 _ h]
      exact c_ef0L x h j k (i + 1) (by omega) (by omega)
theorem s_fillL {n m g b : Nat} (s : Nat) : ∀ (j i k1 k2 a : Nat) (D R : zx_D), i + j = 3 → j < k1 → j + 1 < k2 → zS n m g b m a D R → s ≤ a → (a - s) % 4 = 0 ∨ 4 - (a - s) % 4 ≤ j →
    (∃ a', a ≤ a' ∧ a' < a + 4 ∧ a' ≤ m ∧ (a' - s) % 4 = 0 ∧ g_Cur_expectFilling_2 (nI s) k1 (nI i) D = some (zp_i D 12 3 (nI a')) ∧ g_R_zeros_0 (nI s) k2 R = some (zp_i R 0 28 (nI a'))) ∨
    (∃ D' R', g_Cur_expectFilling_2 (nI s) k1 (nI i) D = some D' ∧ g_R_zeros_0 (nI s) k2 R = some R' ∧ zF n m g b D' R' ∧ ∀ k, zg_i D' 9 k = zg_i D 9 k)
  | j, i, k1 + 1, k2 + 1, a, D, R, hi, h1, h2, h, hs, ht => by
    have hm := h.v.hm
    have hae := h.ae
    have hr : zo_rem (nI a - nI s) 4 = nI ((a - s) % 4) := by rw [y_sub hs]; exact y_rem (b := 4) (by omega) (by omega)
    by_cases ht0 : (a - s) % 4 = 0
    · left
      have q : nI ((a - s) % 4) = 0 := by rw [ht0]; rfl
      refine ⟨a, Nat.le_refl _, by omega, hae, ht0, ?_, ?_⟩
      · rw [y_same' h.nC, g_Cur_expectFilling_2, h.nC, hr, if_pos q]
        split <;> rfl
      · rw [y_same' h.nR]
        simp only [Option.bind_some, ↓reduceIte, not_true_eq_false, not_false_eq_true, y_1, g_R_zeros_0, h.f, h.nR, hr, q]
    · have q : ¬ nI ((a - s) % 4) = 0 := fun q => ht0 ((y_eq (b := 0) (by omega) (by omega)).mp q)
      have e3 : ¬ (3 : Int32) ≤ nI i := fun q => by have := (y_le (a := 3) (by omega) (by omega)).mp q; omega
      have z4 : ¬ (1 : Int32) = 0 := by decide
      by_cases ha : a < m
      · obtain ⟨b1, b2⟩ := h.v.kB a (by omega)
        have z1 : zk_in (nI a) 640 = true := y_in (by omega) (by omega)
        have z2 : zn (nI a) = a := y_zn (by omega)
        have hh : g_R_has 1 R = some (1, R) := r_has1 h (k := 1) (by omega)
        by_cases hz : zg_i R 2 a = 0
        · have h' := h.go (a' := a + 1) (by omega)
          match j, ht with
          | 0, ht => omega
          | j + 1, ht =>
            have E1 : g_Cur_expectFilling_2 (nI s) (k1 + 1) (nI i) D = g_Cur_expectFilling_2 (nI s) k1 (nI (i + 1)) (zp_i D 12 3 (nI (a + 1))) := by
              rw [g_Cur_expectFilling_2, if_neg e3, h.nC, hr, if_neg q, c_ebE h 0 ha, if_pos hz]
              simp only [Option.bind_some, ↓reduceIte, not_true_eq_false, not_false_eq_true, y_1]
            have E2 : g_R_zeros_0 (nI s) (k2 + 1) R = g_R_zeros_0 (nI s) k2 (zp_i R 0 28 (nI (a + 1))) := by
              simp only [Option.bind_some, ↓reduceIte, not_true_eq_false, not_false_eq_true, y_1, g_R_zeros_0, h.f, h.nR, hr, q, hh, z4, z1, z2, hz]
            rw [E1, E2]
            rcases s_fillL s j (i + 1) k1 k2 (a + 1) _ _ (by omega) (by omega) (by omega) h' (by omega) (by omega) with ⟨a', q1, q2, q3, q4, q5, q6⟩ | r
            · exact Or.inl ⟨a', by omega, by omega, q3, q4, by rw [q5, y_pp], by rw [q6, y_pp]⟩
            · exact Or.inr r
        · right
          have hF : zF n m g b (zp_i (zp_i D 12 4 (-3)) 12 5 (nI a)) (zp_i (zp_i (zp_i R 0 30 (nI a)) 0 29 (-3)) 0 28 (nI (a + 1))) := ⟨⟨h.v.hn, h.v.hm, h.v.pC, h.v.pR, h.v.pB, h.v.kC, h.v.kR, h.v.kB, h.v.sz, rfl, rfl, h.v.wa, h.v.lo, h.v.kr, h.v.kc, h.v.c0, h.v.cs, h.v.en, h.v.hg, h.v.gC, h.v.gR, h.v.gB, h.v.bR, h.v.bC, h.v.bS⟩, (by decide : (-3 : Int32) ≠ 0), a, Nat.le_trans h.ae h.em, h.nC⟩
          match k2, h2 with
          | 0, h2 => omega
          | k2 + 1, _ =>
            refine ⟨_, _, ?_, ?_, hF, fun k => rfl⟩
            · rw [g_Cur_expectFilling_2, if_neg e3, h.nC, hr, if_neg q, c_ebE h 0 ha, if_neg hz, Option.bind_some, y_1]
              exact c_ef0L _ hF.c (j - 1) k1 (i + 1) (by omega) (by omega)
            · have g1 : zg_i (zp_i (zp_i R 0 30 (nI a)) 0 29 (-3)) 0 28 = nI a := h.nR
              rw [g_R_zeros_0]
              simp only [Option.bind_some, ↓reduceIte, not_true_eq_false, not_false_eq_true, y_1, h.f, h.nR, hr, q, hh, z4, z1, z2, hz, r_fail1 _ _ h.f, g1]
              rw [g_R_zeros_0, if_pos hF.f]
      · right
        have hF : zF n m g b (zp_i (zp_i D 12 4 (-2)) 12 5 (nI a)) (zp_i (zp_i R 0 30 (nI a)) 0 29 (-2)) := h.fail _ (by decide)
        have hh : g_R_has 1 R = some (0, _) := r_has2 h (k := 1) (by omega) (by omega)
        refine ⟨_, _, ?_, ?_, hF, fun k => rfl⟩
        · rw [g_Cur_expectFilling_2, if_neg e3, h.nC, hr, if_neg q, c_ebN h 0 (by omega), if_pos rfl, Option.bind_some, y_1]
          exact c_ef0L _ hF.c (j - 1) k1 (i + 1) (by omega) (by omega)
        · simp only [Option.bind_some, ↓reduceIte, not_true_eq_false, not_false_eq_true, y_1, g_R_zeros_0, h.f, h.nR, hr, q, hh]
theorem r_zeros {s : Int32} {R R' : zx_D} (h : g_R_zeros_0 s 10001 R = some R') : g_R_zeros s R = some R' := by
  rw [g_R_zeros_0] at h
  rw [g_R_zeros]
  revert h
  by_cases h1 : zg_i R 0 29 = 0
  · by_cases h2 : zo_rem (zg_i R 0 28 - s) 4 = 0
    · simp [h1, h2]
    · simp only [h1, h2, not_true_eq_false, ↓reduceIte]
      cases hq : g_R_has 1 R with
      | none => simp
      | some q =>
        simp only [Option.bind_some]
        by_cases h3 : q.1 = 0
        · simp [h3]
        · simp only [h3, ↓reduceIte]
          by_cases h4 : zk_in (zg_i q.2 0 28) 640 = true
          · simp only [h4, ↓reduceIte]
            by_cases h5 : zg_i q.2 2 (zn (zg_i q.2 0 28)) = 0
            · simp only [h5, ↓reduceIte]
              intro h
              rw [h, Option.bind_some]
            · simp only [h5, ↓reduceIte]
              intro h
              obtain ⟨q3, e1, e2⟩ := zk_bind h
              rw [e1, Option.bind_some, e2, Option.bind_some]
          · simp [h4]
  · simp [h1]
theorem s_fill {n m g b s a : Nat} {D R : zx_D} (h : zS n m g b m a D R) (hs : s ≤ a) :
    (∃ a', a ≤ a' ∧ a' < a + 4 ∧ a' ≤ m ∧ (a' - s) % 4 = 0 ∧ g_Cur_expectFilling (nI s) D = some (zp_i D 12 3 (nI a')) ∧ g_R_zeros (nI s) R = some (zp_i R 0 28 (nI a'))) ∨
    (∃ D' R', g_Cur_expectFilling (nI s) D = some D' ∧ g_R_zeros (nI s) R = some R' ∧ zF n m g b D' R' ∧ ∀ k, zg_i D' 9 k = zg_i D 9 k) := by
  rcases s_fillL s 3 0 10000 10001 a D R rfl (by omega) (by omega) h hs (by omega) with ⟨a', q1, q2, q3, q4, q5, q6⟩ | ⟨D', R', q5, q6, q7⟩
  · exact Or.inl ⟨a', q1, q2, q3, q4, by rw [g_Cur_expectFilling, show (0 : Int32) = nI 0 from rfl, q5, Option.bind_some], r_zeros q6⟩
  · exact Or.inr ⟨D', R', by rw [g_Cur_expectFilling, show (0 : Int32) = nI 0 from rfl, q5, Option.bind_some], r_zeros q6, q7⟩
