def r_hbx (x e : Int32) (R : zx_D) : Option zx_D := (g_R_headByte e R).bind fun q9 => ((if q9.1 = x then some q9.2 else (g_R_fail (-3) ((zg_i q9.2 0 28) - 1) q9.2).bind fun q10 => some q10) : Option zx_D)
def r_hb40 (e : Int32) (R : zx_D) : Option zx_D := (g_R_headByte e R).bind fun q9 => ((if q9.1 ≤ 40 then some q9.2 else (g_R_fail (-3) ((zg_i q9.2 0 28) - 1) q9.2).bind fun q10 => some q10) : Option zx_D)
theorem r_hbx0 {R : zx_D} (x e : Int32) (h : zg_i R 0 29 ≠ 0) : r_hbx x e R = some R := by
  unfold r_hbx
  rw [r_hb0 _ h]
  by_cases hx : 0 = x
  · simp only [Option.bind_some, ↓reduceIte, not_true_eq_false, not_false_eq_true, y_1, hx]
  · simp only [Option.bind_some, ↓reduceIte, not_true_eq_false, not_false_eq_true, y_1, hx, r_fail0 _ _ h]
theorem r_hb400 {R : zx_D} (e : Int32) (h : zg_i R 0 29 ≠ 0) : r_hb40 e R = some R := by
  unfold r_hb40
  rw [r_hb0 _ h]
  have : (0 : Int32) ≤ 40 := by decide
  simp only [Option.bind_some, ↓reduceIte, not_true_eq_false, not_false_eq_true, y_1, this]
theorem s_hbx {n m g b e a : Nat} {D R : zx_D} (h : zS n m g b e a D R) (he : e < m) (x : Int32) (hx0 : x ≠ 0) :
    (a < e ∧ g_Cur_expectByte x D = some (zp_i D 12 3 (nI (a + 1))) ∧ r_hbx x (nI e) R = some (zp_i R 0 28 (nI (a + 1)))) ∨
    (∃ D' R', g_Cur_expectByte x D = some D' ∧ r_hbx x (nI e) R = some R' ∧ zF n m g b D' R') := by
  have hm := h.v.hm
  unfold r_hbx
  by_cases ha : a < e
  · have z1 : zk_in (nI a) 640 = true := y_in (by omega) (by omega)
    have z2 : zn (nI a) = a := y_zn (by omega)
    have l1 : nI a < nI e := (y_lt (by omega) (by omega)).mpr ha
    have a1 : nI (a + 1) - 1 = nI a := y_sub (a := a + 1) (b := 1) (by omega)
    have H : g_R_headByte (nI e) R = some (zg_i R 2 a, zp_i R 0 28 (nI (a + 1))) := by simp only [Option.bind_some, ↓reduceIte, not_true_eq_false, not_false_eq_true, y_1, g_R_headByte, h.f, h.nR, l1, a1, z1, z2]
    rw [c_ebE h x ha, H]
    by_cases hx : zg_i R 2 a = x
    · left
      simp only [Option.bind_some, ↓reduceIte, not_true_eq_false, not_false_eq_true, y_1, hx]
      exact ⟨ha, trivial, trivial⟩
    · right
      have f2 : zg_i (zp_i R 0 28 (nI (a + 1))) 0 29 = 0 := h.f
      have f3 : zg_i (zp_i R 0 28 (nI (a + 1))) 0 28 = nI (a + 1) := rfl
      have hF : zF n m g b (zp_i (zp_i D 12 4 (-3)) 12 5 (nI a)) (zp_i (zp_i (zp_i R 0 28 (nI (a + 1))) 0 30 (nI a)) 0 29 (-3)) := ⟨⟨h.v.hn, h.v.hm, h.v.pC, h.v.pR, h.v.pB, h.v.kC, h.v.kR, h.v.kB, h.v.sz, rfl, rfl, h.v.wa, h.v.lo, h.v.kr, h.v.kc, h.v.c0, h.v.cs, h.v.en, h.v.hg, h.v.gC, h.v.gR, h.v.gB, h.v.bR, h.v.bC, h.v.bS⟩, (by decide : (-3 : Int32) ≠ 0), a, by omega, h.nC⟩
      exact ⟨_, _, by rw [if_neg hx], by simp only [Option.bind_some, ↓reduceIte, not_true_eq_false, not_false_eq_true, y_1, hx, r_fail1 _ _ f2, f3, a1], hF⟩
  · right
    have l1 : ¬ nI a < nI e := fun q => by have := (y_lt (by have := h.ae; omega) (by omega)).mp q; omega
    have H : g_R_headByte (nI e) R = some (0, zp_i (zp_i R 0 30 (nI a)) 0 29 (-3)) := by simp only [Option.bind_some, ↓reduceIte, not_true_eq_false, not_false_eq_true, y_1, g_R_headByte, h.f, h.nR, l1, r_fail1 _ _ h.f]
    have hF := h.fail (w := -3) (nI a) (by decide)
    have hne : ¬ e = m := by omega
    have hx1 : ¬ 0 = x := fun q => hx0 q.symm
    refine ⟨_, _, by rw [c_ebN h x (by omega), if_neg hne], ?_, hF⟩
    rw [H]
    simp only [Option.bind_some, ↓reduceIte, not_true_eq_false, not_false_eq_true, y_1, hx1, r_fail0 _ _ hF.f]
theorem s_hb40 {n m g b e a : Nat} {D R : zx_D} (h : zS n m g b e a D R) (he : e < m) :
    (a < e ∧ g_Cur_expectWithin 0 40 D = some (zp_i D 12 3 (nI (a + 1))) ∧ r_hb40 (nI e) R = some (zp_i R 0 28 (nI (a + 1)))) ∨
    (∃ D' R', g_Cur_expectWithin 0 40 D = some D' ∧ r_hb40 (nI e) R = some R' ∧ zF n m g b D' R') := by
  have hm := h.v.hm
  unfold r_hb40
  by_cases ha : a < e
  · have z1 : zk_in (nI a) 640 = true := y_in (by omega) (by omega)
    have z2 : zn (nI a) = a := y_zn (by omega)
    have z4 : ¬ (1 : Int32) = 0 := by decide
    have l1 : nI a < nI e := (y_lt (by omega) (by omega)).mpr ha
    have a1 : nI (a + 1) - 1 = nI a := y_sub (a := a + 1) (b := 1) (by omega)
    have H : g_R_headByte (nI e) R = some (zg_i R 2 a, zp_i R 0 28 (nI (a + 1))) := by simp only [Option.bind_some, ↓reduceIte, not_true_eq_false, not_false_eq_true, y_1, g_R_headByte, h.f, h.nR, l1, a1, z1, z2]
    obtain ⟨b1, c, hc, b2⟩ := h.v.kB a (by omega)
    have hh : g_Cur_has 1 D = some (1, D) := c_has1 h (k := 1) (by omega)
    have l2 : ¬ nI c < 0 := fun q => by have := (y_lt (b := 0) (by omega) (by omega)).mp q; omega
    rw [H]
    by_cases hx : nI c ≤ 40
    · left
      exact ⟨ha, by simp only [Option.bind_some, ↓reduceIte, not_true_eq_false, not_false_eq_true, y_1, g_Cur_expectWithin, hh, z4, h.nC, z1, z2, b1, b2, l2, hx], by simp only [Option.bind_some, ↓reduceIte, not_true_eq_false, not_false_eq_true, y_1, b2, hx]⟩
    · right
      have f2 : zg_i (zp_i R 0 28 (nI (a + 1))) 0 29 = 0 := h.f
      have f3 : zg_i (zp_i R 0 28 (nI (a + 1))) 0 28 = nI (a + 1) := rfl
      have hF : zF n m g b (zp_i (zp_i D 12 4 (-3)) 12 5 (nI a)) (zp_i (zp_i (zp_i R 0 28 (nI (a + 1))) 0 30 (nI a)) 0 29 (-3)) := ⟨⟨h.v.hn, h.v.hm, h.v.pC, h.v.pR, h.v.pB, h.v.kC, h.v.kR, h.v.kB, h.v.sz, rfl, rfl, h.v.wa, h.v.lo, h.v.kr, h.v.kc, h.v.c0, h.v.cs, h.v.en, h.v.hg, h.v.gC, h.v.gR, h.v.gB, h.v.bR, h.v.bC, h.v.bS⟩, (by decide : (-3 : Int32) ≠ 0), a, by omega, h.nC⟩
      refine ⟨_, _, ?_, ?_, hF⟩
      · simp only [Option.bind_some, ↓reduceIte, not_true_eq_false, not_false_eq_true, y_1, g_Cur_expectWithin, hh, z4, h.nC, z1, z2, b1, b2, l2, hx, c_fail1 _ _ h.c]
      · simp only [Option.bind_some, ↓reduceIte, not_true_eq_false, not_false_eq_true, y_1, b2, hx, r_fail1 _ _ f2, f3, a1]
  · right
    have l1 : ¬ nI a < nI e := fun q => by have := (y_lt (by have := h.ae; omega) (by omega)).mp q; omega
    have H : g_R_headByte (nI e) R = some (0, zp_i (zp_i R 0 30 (nI a)) 0 29 (-3)) := by simp only [Option.bind_some, ↓reduceIte, not_true_eq_false, not_false_eq_true, y_1, g_R_headByte, h.f, h.nR, l1, r_fail1 _ _ h.f]
    have hF := h.fail (w := -3) (nI a) (by decide)
    have hne : ¬ e = m := by omega
    have hh : g_Cur_has 1 D = _ := c_has2 h (k := 1) (by omega) (by omega)
    rw [if_neg hne] at hh
    have l3 : (0 : Int32) ≤ 40 := by decide
    refine ⟨_, _, by simp only [Option.bind_some, ↓reduceIte, not_true_eq_false, not_false_eq_true, y_1, g_Cur_expectWithin, hh], ?_, hF⟩
    rw [H]
    simp only [Option.bind_some, ↓reduceIte, not_true_eq_false, not_false_eq_true, y_1, l3]
theorem c_pad0 {D : zx_D} (e : Nat) (he : e ≤ 640) (hf : ¬ zg_i D 12 4 = 0) : ∀ (j k i : Nat), j < k → (i + j = e ∨ (j = 0 ∧ e ≤ i ∧ i < 2 ^ 31)) → g_Unp_readHead_137 (nI e) k (nI i) D = some D
  | 0, k + 1, i, _, hi => by
    have l : nI e ≤ nI i := (y_le (by omega) (by omega)).mpr (by omega)
    simp only [Option.bind_some, ↓reduceIte, not_true_eq_false, not_false_eq_true, y_1, g_Unp_readHead_137, l]
  | j + 1, k + 1, i, hk, hi => by
    have l : ¬ nI e ≤ nI i := fun q => by have := (y_le (by omega) (by omega)).mp q; omega
    simp only [Option.bind_some, ↓reduceIte, not_true_eq_false, not_false_eq_true, y_1, g_Unp_readHead_137, l, c_eb0 _ hf]
    exact c_pad0 e he hf j k (i + 1) (by omega) (by omega)
theorem s_pad {n m g b e : Nat} (x1 : Int32) (x5 x7 : Int64) (he : e < m) : ∀ (j k1 k2 a : Nat) (D R : zx_D), j < k1 → j + 1 < k2 → a + j = e → zS n m g b e a D R →
    (g_Unp_readHead_137 (nI e) k1 (nI a) D = some (zp_i D 12 3 (nI e)) ∧ g_R_block_243 x1 (nI e) x5 x7 k2 R = some (zp_i R 0 28 (nI e))) ∨
    (∃ D' R', g_Unp_readHead_137 (nI e) k1 (nI a) D = some D' ∧ g_R_block_243 x1 (nI e) x5 x7 k2 R = some R' ∧ zF n m g b D' R')
  | 0, k1 + 1, k2 + 1, a, D, R, _, _, ha, h => by
    have hm := h.v.hm
    have l : nI e ≤ nI a := (y_le (by omega) (by omega)).mpr (by omega)
    have hae : a = e := by omega
    subst hae
    left
    rw [y_same' h.nC, y_same' h.nR]
    exact ⟨by simp only [Option.bind_some, ↓reduceIte, not_true_eq_false, not_false_eq_true, y_1, g_Unp_readHead_137, l], by simp only [Option.bind_some, ↓reduceIte, not_true_eq_false, not_false_eq_true, y_1, g_R_block_243, h.f, h.nR, l]⟩
  | j + 1, k1 + 1, k2 + 1, a, D, R, h1, h2, ha, h => by
    have hm := h.v.hm
    have l : ¬ nI e ≤ nI a := fun q => by have := (y_le (by omega) (by omega)).mp q; omega
    have z1 : zk_in (nI a) 640 = true := y_in (by omega) (by omega)
    have z2 : zn (nI a) = a := y_zn (by omega)
    have l1 : nI a < nI e := (y_lt (by omega) (by omega)).mpr (by omega)
    have a1 : nI (a + 1) - 1 = nI a := y_sub (a := a + 1) (b := 1) (by omega)
    have H : g_R_headByte (nI e) R = some (zg_i R 2 a, zp_i R 0 28 (nI (a + 1))) := by simp only [Option.bind_some, ↓reduceIte, not_true_eq_false, not_false_eq_true, y_1, g_R_headByte, h.f, h.nR, l1, a1, z1, z2]
    by_cases hz : zg_i R 2 a = 0
    · have E1 : g_Unp_readHead_137 (nI e) (k1 + 1) (nI a) D = g_Unp_readHead_137 (nI e) k1 (nI (a + 1)) (zp_i D 12 3 (nI (a + 1))) := by
        simp only [Option.bind_some, ↓reduceIte, not_true_eq_false, not_false_eq_true, y_1, g_Unp_readHead_137, l, c_ebE h 0 (by omega), hz]
      have E2 : g_R_block_243 x1 (nI e) x5 x7 (k2 + 1) R = g_R_block_243 x1 (nI e) x5 x7 k2 (zp_i R 0 28 (nI (a + 1))) := by
        simp only [Option.bind_some, ↓reduceIte, not_true_eq_false, not_false_eq_true, y_1, g_R_block_243, h.f, h.nR, l, H, hz]
      rw [E1, E2]
      rcases s_pad x1 x5 x7 he j k1 k2 (a + 1) _ _ (by omega) (by omega) (by omega) (h.go (a' := a + 1) (by omega)) with ⟨q1, q2⟩ | r
      · left
        rw [q1, q2, y_pp, y_pp]
        exact ⟨rfl, rfl⟩
      · exact Or.inr r
    · right
      have hF : zF n m g b (zp_i (zp_i D 12 4 (-3)) 12 5 (nI a)) (zp_i (zp_i (zp_i R 0 28 (nI (a + 1))) 0 30 (nI a)) 0 29 (-3)) := ⟨⟨h.v.hn, h.v.hm, h.v.pC, h.v.pR, h.v.pB, h.v.kC, h.v.kR, h.v.kB, h.v.sz, rfl, rfl, h.v.wa, h.v.lo, h.v.kr, h.v.kc, h.v.c0, h.v.cs, h.v.en, h.v.hg, h.v.gC, h.v.gR, h.v.gB, h.v.bR, h.v.bC, h.v.bS⟩, (by decide : (-3 : Int32) ≠ 0), a, by omega, h.nC⟩
      have f2 : zg_i (zp_i R 0 28 (nI (a + 1))) 0 29 = 0 := h.f
      have f3 : zg_i (zp_i R 0 28 (nI (a + 1))) 0 28 = nI (a + 1) := rfl
      match k2, h2 with
      | 0, h2 => omega
      | k2 + 1, _ =>
        refine ⟨_, _, ?_, ?_, hF⟩
        · simp only [Option.bind_some, ↓reduceIte, not_true_eq_false, not_false_eq_true, y_1, g_Unp_readHead_137, l, c_ebE h 0 (by omega), hz]
          exact c_pad0 e (by omega) hF.c j k1 (a + 1) (by omega) (by omega)
        · rw [g_R_block_243]
          simp only [Option.bind_some, ↓reduceIte, not_true_eq_false, not_false_eq_true, y_1, h.f, h.nR, l, H, hz, r_fail1 _ _ f2, f3, a1]
          rw [g_R_block_243, if_pos hF.f]
