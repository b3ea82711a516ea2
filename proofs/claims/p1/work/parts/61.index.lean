theorem c_sumx (D : zx_D) {p q : Nat} (hp : p ≤ 640) (hq : q ≤ 640) : ∃ v, g_P_sumFour_4 (nI p) (nI q) D = some v := by
  by_cases h : p ≤ q
  · exact ⟨_, y_sum4_4 D hq h⟩
  · have l : nI q ≤ nI p := (y_le (by omega) (by omega)).mpr (by omega)
    refine ⟨4294967295 ^^^ 4294967295, ?_⟩
    rw [g_P_sumFour_4, g_P_sumBy_4, g_P_sumBy_4_6, if_pos l]
    rfl
theorem s_idxL {n m g b : Nat} (x1 : Int32) (y1 : Int32) : ∀ (j k1 k2 i a : Nat) (D R : zx_D), i + j = b → j < k1 → j < k2 → zS n m g b m a D R → b ≤ 40 →
    (∃ a', a ≤ a' ∧ a' ≤ m ∧ g_Unp_readIndex_44 x1 k1 (nI i) D = some (zp_i D 12 3 (nI a')) ∧ g_R_index_34 y1 k2 (nI i) R = some (zp_i R 0 28 (nI a'))) ∨
    (∃ D' R', g_Unp_readIndex_44 x1 k1 (nI i) D = some D' ∧ g_R_index_34 y1 k2 (nI i) R = some R' ∧ zF n m g b D' R')
  | 0, k1 + 1, k2 + 1, i, a, D, R, hi, _, _, h, hb => by
    have l : nI b ≤ nI i := (y_le (by omega) (by omega)).mpr (by omega)
    have c10 : zg_i D 14 (zn 10) = nI b := h.v.bC
    left
    refine ⟨a, Nat.le_refl _, h.ae, ?_, ?_⟩
    · rw [y_same' h.nC]
      simp only [Option.bind_some, ↓reduceIte, not_true_eq_false, not_false_eq_true, y_1, g_Unp_readIndex_44, c10, l]
    · rw [y_same' h.nR]
      simp only [Option.bind_some, ↓reduceIte, not_true_eq_false, not_false_eq_true, y_1, g_R_index_34, h.v.bR, l]
  | j + 1, k1 + 1, k2 + 1, i, a, D, R, hi, h1, h2, h, hb => by
    have l : ¬ nI b ≤ nI i := fun q => by have := (y_le (by omega) (by omega)).mp q; omega
    have c10 : zg_i D 14 (zn 10) = nI b := h.v.bC
    have z1 : zk_in (nI i) 40 = true := y_in (by omega) (by omega)
    have z1' : zk_in (nI i) 48 = true := y_in (by omega) (by omega)
    have z2 : zn (nI i) = i := y_zn (by omega)
    have z4 : ¬ (1 : Int32) = 0 := by decide
    obtain ⟨t1, t2⟩ := h.v.bS i (by omega)
    have dead : ∀ (D' R' : zx_D), zF n m g b D' R' → ∀ (x : Nat), (g_Unp_readIndex_44 x1 k1 (nI (i + 1)) D' = some D' ∧ g_R_index_34 y1 k2 (nI (i + 1)) R' = some R') := by
      intro D' R' hF _
      have c10' : zg_i D' 14 (zn 10) = nI b := hF.v.bC
      match k1, k2, h1, h2 with
      | k1 + 1, k2 + 1, _, _ =>
        constructor
        · rw [g_Unp_readIndex_44, c10']
          split
          · rfl
          · simp only [Option.bind_some, ↓reduceIte, not_true_eq_false, not_false_eq_true, y_1, c_snd0 hF.c]
        · rw [g_R_index_34, hF.v.bR]
          split
          · rfl
          · rw [if_pos hF.f]
      | 0, _, h1, _ => omega
      | k1 + 1, 0, _, h2 => omega
    rcases s_exp h (zg_i R 7 i) with ⟨a1, u1, u2, u3, u4⟩ | ⟨D', R', u3, u4, u5⟩
    · have h' := h.go (a' := a1) u2
      have t3 : zg_l (zp_i D 12 3 (nI a1)) 16 i = (zg_i (zp_i R 0 28 (nI a1)) 8 i).toInt64 := t2
      rcases s_exp h' (zg_i (zp_i R 0 28 (nI a1)) 8 i) with ⟨a2, w1, w2, w3, w4⟩ | ⟨D', R', w3, w4, w5⟩
      · have h'' := h'.go (a' := a2) w2
        have E1 : g_Unp_readIndex_44 x1 (k1 + 1) (nI i) D = g_Unp_readIndex_44 x1 k1 (nI (i + 1)) (zp_i (zp_i D 12 3 (nI a1)) 12 3 (nI a2)) := by
          simp only [Option.bind_some, ↓reduceIte, not_true_eq_false, not_false_eq_true, y_1, g_Unp_readIndex_44, c10, l, c_snd1 h.c, z4, z1, z2, t1, u3, t3, w3]
        have E2 : g_R_index_34 y1 (k2 + 1) (nI i) R = g_R_index_34 y1 k2 (nI (i + 1)) (zp_i (zp_i R 0 28 (nI a1)) 0 28 (nI a2)) := by
          simp only [Option.bind_some, ↓reduceIte, not_true_eq_false, not_false_eq_true, y_1, g_R_index_34, h.v.bR, l, h.f, z1', z2, u4, w4]
        rw [E1, E2]
        rcases s_idxL x1 y1 j k1 k2 (i + 1) a2 _ _ (by omega) (by omega) (by omega) h'' hb with ⟨a', q1, q2, q3, q4⟩ | r
        · left
          exact ⟨a', by omega, q2, by rw [q3, y_pp, y_pp], by rw [q4, y_pp, y_pp]⟩
        · exact Or.inr r
      · right
        obtain ⟨d1, d2⟩ := dead D' R' w5 0
        refine ⟨D', R', ?_, ?_, w5⟩
        · simp only [Option.bind_some, ↓reduceIte, not_true_eq_false, not_false_eq_true, y_1, g_Unp_readIndex_44, c10, l, c_snd1 h.c, z4, z1, z2, t1, u3, t3, w3]
          exact d1
        · simp only [Option.bind_some, ↓reduceIte, not_true_eq_false, not_false_eq_true, y_1, g_R_index_34, h.v.bR, l, h.f, z1', z2, u4, w4]
          exact d2
    · right
      obtain ⟨d1, d2⟩ := dead D' R' u5 0
      refine ⟨D', R', ?_, ?_, u5⟩
      · simp only [Option.bind_some, ↓reduceIte, not_true_eq_false, not_false_eq_true, y_1, g_Unp_readIndex_44, c10, l, c_snd1 h.c, z4, z1, z2, t1, u3, c_en0 _ u5.c]
        exact d1
      · simp only [Option.bind_some, ↓reduceIte, not_true_eq_false, not_false_eq_true, y_1, g_R_index_34, h.v.bR, l, h.f, z1', z2, u4, r_exp0 _ u5.f]
        exact d2
theorem c_end0 {D : zx_D} (h : ¬ zg_i D 12 4 = 0) : g_Unp_readEnd D = some D := by
  simp only [Option.bind_some, ↓reduceIte, not_true_eq_false, not_false_eq_true, y_1, g_Unp_readEnd, c_has0 _ h]
def r_idx2 (s : Int32) (q5 : zx_D) : Option zx_D :=
    ((
      if ¬ zg_i q5 0 29 = 0 then
        some q5
      else
        (g_R_zeros s q5).bind fun q6 =>
        some q6
    ) : Option (zx_D)).bind fun q7 =>
    ((
      if ¬ zg_i q7 0 29 = 0 then
        some q7
      else
        (g_R_sumOf s q7).bind fun q8 =>
        some q8
    ) : Option (zx_D)).bind fun q9 =>
    if ¬ zg_i q9 0 29 = 0 then
      some q9
    else
      (g_R_has 12 q9).bind fun q10 =>
      if ¬ q10.1 = 0 then
        (g_R_number (zg_i q10.2 0 28) 4 q10.2).bind fun q11 =>
        (g_R_fourOfPacked ((zg_i q10.2 0 28) + 4) ((zg_i q10.2 0 28) + 10) q10.2).bind fun q12 =>
        ((
          if q11 = q12 then
            (g_R_number ((zg_i q10.2 0 28) + 4) 4 q10.2).bind fun q13 =>
            if ¬ q13 = (((((zg_i q9 0 28) - s) / 4) - 1)).toInt64 then
              (g_R_fail (-3) (zg_i q10.2 0 28) q10.2).bind fun q14 =>
              some q14
            else
              if zk_in ((zg_i q10.2 0 28) + 8) 640 = true then
              if ¬ zg_i q10.2 2 (zn ((zg_i q10.2 0 28) + 8)) = 0 then
                (g_R_fail (-3) (zg_i q10.2 0 28) q10.2).bind fun q15 =>
                some q15
              else
                if zk_in ((zg_i q10.2 0 28) + 9) 640 = true then
                if ¬ zg_i q10.2 2 (zn ((zg_i q10.2 0 28) + 9)) = zg_i q10.2 0 31 then
                  (g_R_fail (-3) (zg_i q10.2 0 28) q10.2).bind fun q16 =>
                  some q16
                else
                  if zk_in ((zg_i q10.2 0 28) + 10) 640 = true then
                  if ¬ zg_i q10.2 2 (zn ((zg_i q10.2 0 28) + 10)) = 89 then
                    (g_R_fail (-3) (zg_i q10.2 0 28) q10.2).bind fun q17 =>
                    some q17
                  else
                    if zk_in ((zg_i q10.2 0 28) + 11) 640 = true then
                    if zg_i q10.2 2 (zn ((zg_i q10.2 0 28) + 11)) = 90 then
                      some q10.2
                    else
                      (g_R_fail (-3) (zg_i q10.2 0 28) q10.2).bind fun q18 =>
                      some q18
                    else none
                  else none
                else none
              else none
          else
            (g_R_fail (-4) (zg_i q10.2 0 28) q10.2).bind fun q19 =>
            some q19
        ) : Option (zx_D)).bind fun q20 =>
        if zg_i q20 0 3 ≤ (zg_i q20 0 28) + 12 then
          some (zp_i q20 0 28 ((zg_i q20 0 28) + 12))
        else
          (g_R_fail (-3) ((zg_i q20 0 28) + 12) (zp_i q20 0 28 ((zg_i q20 0 28) + 12))).bind fun q21 =>
          some q21
      else
        some q10.2
theorem r_idx2_0 {E : zx_D} (s : Int32) (h : zg_i E 0 29 ≠ 0) : r_idx2 s E = some E := by
  unfold r_idx2
  rw [if_pos h, Option.bind_some, if_pos h, Option.bind_some, if_pos h]
theorem s_end {n m g b a s : Nat} {D R : zx_D} (h : zS n m g b m a D R) (hs : s ≤ a) (so : zg_i D 9 7 = zg_i R 0 31) (ix : zg_i D 9 18 = nI (a - s)) (f : zg_i R 0 29 = 0) :
    ∃ D' R', g_Unp_readEnd D = some D' ∧ (
      (g_R_has 12 R).bind fun q10 =>
      if ¬ q10.1 = 0 then
        (g_R_number (zg_i q10.2 0 28) 4 q10.2).bind fun q11 =>
        (g_R_fourOfPacked ((zg_i q10.2 0 28) + 4) ((zg_i q10.2 0 28) + 10) q10.2).bind fun q12 =>
        ((
          if q11 = q12 then
            (g_R_number ((zg_i q10.2 0 28) + 4) 4 q10.2).bind fun q13 =>
            if ¬ q13 = (((((zg_i R 0 28) - nI s) / 4) - 1)).toInt64 then
              (g_R_fail (-3) (zg_i q10.2 0 28) q10.2).bind fun q14 =>
              some q14
            else
              if zk_in ((zg_i q10.2 0 28) + 8) 640 = true then
              if ¬ zg_i q10.2 2 (zn ((zg_i q10.2 0 28) + 8)) = 0 then
                (g_R_fail (-3) (zg_i q10.2 0 28) q10.2).bind fun q15 =>
                some q15
              else
                if zk_in ((zg_i q10.2 0 28) + 9) 640 = true then
                if ¬ zg_i q10.2 2 (zn ((zg_i q10.2 0 28) + 9)) = zg_i q10.2 0 31 then
                  (g_R_fail (-3) (zg_i q10.2 0 28) q10.2).bind fun q16 =>
                  some q16
                else
                  if zk_in ((zg_i q10.2 0 28) + 10) 640 = true then
                  if ¬ zg_i q10.2 2 (zn ((zg_i q10.2 0 28) + 10)) = 89 then
                    (g_R_fail (-3) (zg_i q10.2 0 28) q10.2).bind fun q17 =>
                    some q17
                  else
                    if zk_in ((zg_i q10.2 0 28) + 11) 640 = true then
                    if zg_i q10.2 2 (zn ((zg_i q10.2 0 28) + 11)) = 90 then
                      some q10.2
                    else
                      (g_R_fail (-3) (zg_i q10.2 0 28) q10.2).bind fun q18 =>
                      some q18
                    else none
                  else none
                else none
              else none
          else
            (g_R_fail (-4) (zg_i q10.2 0 28) q10.2).bind fun q19 =>
            some q19
        ) : Option (zx_D)).bind fun q20 =>
        if zg_i q20 0 3 ≤ (zg_i q20 0 28) + 12 then
          some (zp_i q20 0 28 ((zg_i q20 0 28) + 12))
        else
          (g_R_fail (-3) ((zg_i q20 0 28) + 12) (zp_i q20 0 28 ((zg_i q20 0 28) + 12))).bind fun q21 =>
          some q21
      else
        some q10.2) = some R' ∧ (zS n m g b m m D' R' ∨ zF n m g b D' R') := by
  have hm := h.v.hm
  have z4 : ¬ (1 : Int32) = 0 := by decide
  have z0 : ¬ (0 : Int32) = 1 := by decide
  rcases s_has h (k := 12) (by omega) with ⟨hs12, p1, p2⟩ | ⟨hs12, D', R', p1, p2, hF⟩
  · have p1 : g_Cur_has 12 D = some (1, D) := p1
    have p2 : g_R_has 12 R = some (1, R) := p2
    obtain ⟨w, r1, r2⟩ := s_num h.v (p := a) (c := 4) (by omega)
    have r1 : g_Cur_lowFirst (nI a) 4 D = some w := r1
    have r2 : g_R_number (nI a) 4 R = some w := r2
    obtain ⟨v, v1, v2⟩ := s_sum h.v (p := a + 4) (q := a + 10) (by omega) (by omega)
    obtain ⟨w2, r3, r4⟩ := s_num h.v (p := a + 4) (c := 4) (by omega)
    have r3 : g_Cur_lowFirst (nI (a + 4)) 4 D = some w2 := r3
    have r4 : g_R_number (nI (a + 4)) 4 R = some w2 := r4
    have a4 : nI a + 4 = nI (a + 4) := y_add a 4
    have a8 : nI a + 8 = nI (a + 8) := y_add a 8
    have a9 : nI a + 9 = nI (a + 9) := y_add a 9
    have a10 : nI a + 10 = nI (a + 10) := y_add a 10
    have a11 : nI a + 11 = nI (a + 11) := y_add a 11
    have a12 : nI a + 12 = nI (a + 12) := y_add a 12
    have as : nI a - nI s = nI (a - s) := y_sub hs
    have k8 : zk_in (nI (a + 8)) 640 = true := y_in (by omega) (by omega)
    have k9 : zk_in (nI (a + 9)) 640 = true := y_in (by omega) (by omega)
    have k10 : zk_in (nI (a + 10)) 640 = true := y_in (by omega) (by omega)
    have k11 : zk_in (nI (a + 11)) 640 = true := y_in (by omega) (by omega)
    have n8 : zn (nI (a + 8)) = a + 8 := y_zn (by omega)
    have n9 : zn (nI (a + 9)) = a + 9 := y_zn (by omega)
    have n10 : zn (nI (a + 10)) = a + 10 := y_zn (by omega)
    have n11 : zn (nI (a + 11)) = a + 11 := y_zn (by omega)
    have b8 := (h.v.kB (a + 8) (by omega)).1
    have b9 := (h.v.kB (a + 9) (by omega)).1
    have b10 := (h.v.kB (a + 10) (by omega)).1
    have b11 := (h.v.kB (a + 11) (by omega)).1
    have bad : ∀ x : Int32, x ≠ 0 → ∃ D' R', g_Cur_fail x (nI a) D = some D' ∧ (∀ (q : zx_D), g_R_fail x (nI a) R = some q → (if zg_i q 0 3 ≤ (zg_i q 0 28) + 12 then some (zp_i q 0 28 ((zg_i q 0 28) + 12)) else (g_R_fail (-3) ((zg_i q 0 28) + 12) (zp_i q 0 28 ((zg_i q 0 28) + 12))).bind fun q21 => some q21) = some R') ∧ zF n m g b D' R' := by
      intro x hx
      have hF := h.fail (w := x) (nI a) hx
      have hF2 : zF n m g b (zp_i (zp_i D 12 4 x) 12 5 (nI a)) (zp_i (zp_i (zp_i R 0 30 (nI a)) 0 29 x) 0 28 (nI (a + 12))) := ⟨⟨hF.v.hn, hF.v.hm, hF.v.pC, hF.v.pR, hF.v.pB, hF.v.kC, hF.v.kR, hF.v.kB, hF.v.sz, hF.v.fa, hF.v.wh, hF.v.wa, hF.v.lo, hF.v.kr, hF.v.kc, hF.v.c0, hF.v.cs, hF.v.en, hF.v.hg, hF.v.gC, hF.v.gR, hF.v.gB, hF.v.bR, hF.v.bC, hF.v.bS⟩, hF.f, hF.nx⟩
      refine ⟨_, _, c_fail1 _ _ h.c, ?_, hF2⟩
      intro q hq
      rw [r_fail1 _ _ h.f] at hq
      cases hq
      have g1 : zg_i (zp_i (zp_i R 0 30 (nI a)) 0 29 x) 0 28 = nI a := h.nR
      rw [g1, a12]
      split
      · rfl
      · rw [r_fail0 _ _ hF2.f, Option.bind_some]
    have bad3 : ∃ D' R', g_Cur_fail (-3) (nI a) D = some D' ∧ ((g_R_fail (-3) (nI a) R).bind fun q => (if zg_i q 0 3 ≤ (zg_i q 0 28) + 12 then some (zp_i q 0 28 ((zg_i q 0 28) + 12)) else (g_R_fail (-3) ((zg_i q 0 28) + 12) (zp_i q 0 28 ((zg_i q 0 28) + 12))).bind fun q21 => some q21)) = some R' ∧ zF n m g b D' R' := by
      obtain ⟨D', R', q1, q2, q3⟩ := bad (-3) (by decide)
      exact ⟨D', R', q1, by rw [r_fail1 _ _ h.f, Option.bind_some]; exact q2 _ (r_fail1 _ _ h.f), q3⟩
    obtain ⟨D3, R3, x1, x2, x3⟩ := bad3
    by_cases hw : w = v
    · by_cases c1 : w2 = (nI (a - s) / 4 - 1).toInt64
      · by_cases c2 : zg_i R 2 (a + 8) = 0
        · by_cases c3 : zg_i R 2 (a + 9) = zg_i R 0 31
          · by_cases c4 : zg_i R 2 (a + 10) = 89
            · by_cases c5 : zg_i R 2 (a + 11) = 90
              · by_cases c6 : nI m ≤ nI (a + 12)
                · have e12 : a + 12 = m := by have := (y_le (by omega) (by omega)).mp c6; omega
                  have h2 := h.go (a' := a + 12) (by omega)
                  refine ⟨_, _, ?_, ?_, Or.inl (show zS n m g b m m (zp_i D 12 3 (nI (a + 12))) (zp_i R 0 28 (nI (a + 12))) by rw [← e12] at h2 ⊢; exact h2)⟩
                  · simp only [g_Unp_readEnd, p1, z4, h.nC, r1, a4, a10, v1, hw, r3, ix, c1, a8, k8, n8, b8, c2, a9, k9, n9, b9, c3, so, k10, n10, b10, c4, a11, k11, n11, b11, c5, h.v.sz, a12, c6, Option.bind_some, ↓reduceIte, not_true_eq_false, not_false_eq_true]
                  · simp only [p2, z4, h.nR, r2, a4, a10, v2, hw, r4, as, c1, a8, k8, n8, c2, a9, k9, n9, c3, k10, n10, c4, a11, k11, n11, c5, h.v.kR, a12, c6, Option.bind_some, ↓reduceIte, not_true_eq_false, not_false_eq_true]
                · have h2 : zS n m g b m (a + 12) (zp_i D 12 3 (nI (a + 12))) (zp_i R 0 28 (nI (a + 12))) := h.go (a' := a + 12) (by omega)
                  have hF := h2.fail (w := -3) (nI (a + 12)) (by decide)
                  refine ⟨_, _, ?_, ?_, Or.inr hF⟩
                  · simp only [g_Unp_readEnd, p1, z4, h.nC, r1, a4, a10, v1, hw, r3, ix, c1, a8, k8, n8, b8, c2, a9, k9, n9, b9, c3, so, k10, n10, b10, c4, a11, k11, n11, b11, c5, h.v.sz, a12, c6, c_fail1 _ _ h2.c, Option.bind_some, ↓reduceIte, not_true_eq_false, not_false_eq_true]
                  · simp only [p2, z4, h.nR, r2, a4, a10, v2, hw, r4, as, c1, a8, k8, n8, c2, a9, k9, n9, c3, k10, n10, c4, a11, k11, n11, c5, h.v.kR, a12, c6, r_fail1 _ _ h2.f, Option.bind_some, ↓reduceIte, not_true_eq_false, not_false_eq_true]
              · refine ⟨D3, R3, ?_, ?_, Or.inr x3⟩
                · simp only [g_Unp_readEnd, p1, z4, h.nC, r1, a4, a10, v1, hw, r3, ix, c1, a8, k8, n8, b8, c2, a9, k9, n9, b9, c3, so, k10, n10, b10, c4, a11, k11, n11, b11, c5, x1, Option.bind_some, ↓reduceIte, not_true_eq_false, not_false_eq_true]
                · simp only [p2, z4, h.nR, r2, a4, a10, v2, hw, r4, as, c1, a8, k8, n8, c2, a9, k9, n9, c3, k10, n10, c4, a11, k11, n11, c5, Option.bind_some, ↓reduceIte, not_true_eq_false, not_false_eq_true, Option.bind_assoc]
                  exact x2
            · refine ⟨D3, R3, ?_, ?_, Or.inr x3⟩
              · simp only [g_Unp_readEnd, p1, z4, h.nC, r1, a4, a10, v1, hw, r3, ix, c1, a8, k8, n8, b8, c2, a9, k9, n9, b9, c3, so, k10, n10, b10, c4, x1, Option.bind_some, ↓reduceIte, not_true_eq_false, not_false_eq_true]
              · simp only [p2, z4, h.nR, r2, a4, a10, v2, hw, r4, as, c1, a8, k8, n8, c2, a9, k9, n9, c3, k10, n10, c4, Option.bind_some, ↓reduceIte, not_true_eq_false, not_false_eq_true, Option.bind_assoc]
                exact x2
          · refine ⟨D3, R3, ?_, ?_, Or.inr x3⟩
            · simp only [g_Unp_readEnd, p1, z4, h.nC, r1, a4, a10, v1, hw, r3, ix, c1, a8, k8, n8, b8, c2, a9, k9, n9, b9, c3, so, x1, Option.bind_some, ↓reduceIte, not_true_eq_false, not_false_eq_true]
            · simp only [p2, z4, h.nR, r2, a4, a10, v2, hw, r4, as, c1, a8, k8, n8, c2, a9, k9, n9, c3, Option.bind_some, ↓reduceIte, not_true_eq_false, not_false_eq_true, Option.bind_assoc]
              exact x2
        · refine ⟨D3, R3, ?_, ?_, Or.inr x3⟩
          · simp only [g_Unp_readEnd, p1, z4, h.nC, r1, a4, a10, v1, hw, r3, ix, c1, a8, k8, n8, b8, c2, x1, Option.bind_some, ↓reduceIte, not_true_eq_false, not_false_eq_true]
          · simp only [p2, z4, h.nR, r2, a4, a10, v2, hw, r4, as, c1, a8, k8, n8, c2, Option.bind_some, ↓reduceIte, not_true_eq_false, not_false_eq_true, Option.bind_assoc]
            exact x2
      · refine ⟨D3, R3, ?_, ?_, Or.inr x3⟩
        · simp only [g_Unp_readEnd, p1, z4, h.nC, r1, a4, a10, v1, hw, r3, ix, c1, x1, Option.bind_some, ↓reduceIte, not_true_eq_false, not_false_eq_true]
        · simp only [p2, z4, h.nR, r2, a4, a10, v2, hw, r4, as, c1, Option.bind_some, ↓reduceIte, not_true_eq_false, not_false_eq_true, Option.bind_assoc]
          exact x2
    · obtain ⟨D4, R4, y1, y2, y3⟩ := bad (-4) (by decide)
      refine ⟨D4, R4, ?_, ?_, Or.inr y3⟩
      · simp only [g_Unp_readEnd, p1, z4, h.nC, r1, a4, a10, v1, hw, y1, Option.bind_some, ↓reduceIte, not_true_eq_false, not_false_eq_true]
      · simp only [p2, z4, h.nR, r2, a4, a10, v2, hw, Option.bind_some, ↓reduceIte, not_true_eq_false, not_false_eq_true, Option.bind_assoc]
        rw [r_fail1 _ _ h.f, Option.bind_some]
        exact y2 _ (r_fail1 _ _ h.f)
  · have p1 : g_Cur_has 12 D = some (0, D') := p1
    have p2 : g_R_has 12 R = some (0, R') := p2
    exact ⟨D', R', by simp only [Option.bind_some, ↓reduceIte, not_true_eq_false, not_false_eq_true, y_1, g_Unp_readEnd, p1], by simp only [Option.bind_some, ↓reduceIte, not_true_eq_false, not_false_eq_true, y_1, p2], Or.inr hF⟩
theorem c_idx0 {D : zx_D} (h : ¬ zg_i D 12 4 = 0) : g_Unp_readIndex D = some D := by
  simp only [Option.bind_some, ↓reduceIte, not_true_eq_false, not_false_eq_true, y_1, g_Unp_readIndex, c_snd0 h]
def c_idx2 (x : Int32) (q7 : zx_D) : Option zx_D :=
    (g_Cur_expectFilling x q7).bind fun q8 =>
    (g_P_sumFour_4 x (zg_i q8 12 3) q8).bind fun q9 =>
    (g_Cur_expectSum 4 q9 q8).bind fun q10 =>
    some (zp_i q10 9 18 ((zg_i q10 12 3) - x))
theorem c_idx20 {n m g b s : Nat} {D R : zx_D} (hs : s ≤ 640) (h : zF n m g b D R) : ∃ D', c_idx2 (nI s) D = some D' ∧ g_Unp_readEnd D' = some D' ∧ zF n m g b D' R := by
  have hm := h.v.hm
  obtain ⟨i, hi, hn⟩ := h.nx
  obtain ⟨v, hv⟩ := c_sumx D (p := s) (q := i) hs (by omega)
  have h2 : zF n m g b (zp_i D 9 18 (nI i - nI s)) R := ⟨⟨h.v.hn, h.v.hm, h.v.pC, h.v.pR, h.v.pB, h.v.kC, h.v.kR, h.v.kB, h.v.sz, h.v.fa, h.v.wh, h.v.wa, h.v.lo, h.v.kr, h.v.kc, h.v.c0, h.v.cs, h.v.en, h.v.hg, h.v.gC, h.v.gR, h.v.gB, h.v.bR, h.v.bC, h.v.bS⟩, h.f, h.nx⟩
  refine ⟨_, ?_, c_end0 h2.c, h2⟩
  unfold c_idx2
  simp only [c_ef0 _ h.c, hn, hv, c_es0 _ _ h.c, Option.bind_some]
theorem s_idx2 {n m g b a s : Nat} {D R : zx_D} (h : zS n m g b m a D R) (hs : s ≤ a) (so : zg_i D 9 7 = zg_i R 0 31) :
    ∃ D1 D' R', c_idx2 (nI s) D = some D1 ∧ g_Unp_readEnd D1 = some D' ∧ r_idx2 (nI s) R = some R' ∧ (zS n m g b m m D' R' ∨ zF n m g b D' R') := by
  have hm := h.v.hm
  have hae := h.ae
  rcases s_fill h hs with ⟨a', t1, t2, t3, t4, t5, t6⟩ | ⟨D', R', t5, t6, t7, t8⟩
  · have h1 := h.go (a' := a') t3
    obtain ⟨v, v1, v2⟩ := s_sumOf h1 (s := s) (by omega)
    have so1 : zg_i (zp_i D 12 3 (nI a')) 9 7 = zg_i (zp_i R 0 28 (nI a')) 0 31 := so
    have f0 := h.f
    generalize zp_i D 12 3 (nI a') = D1 at *
    generalize zp_i R 0 28 (nI a') = R1 at *
    have f1 := h1.f
    rcases v2 with ⟨q1, q2, q3⟩ | ⟨D', R', q2, q3, q4⟩
    · have h2 := h1.go (a' := a' + 4) q1
      have n2 : zg_i (zp_i D1 12 3 (nI (a' + 4))) 12 3 = nI (a' + 4) := rfl
      have e4 : nI (a' + 4) - nI s = nI (a' + 4 - s) := y_sub (by omega)
      have so2 : zg_i (zp_i (zp_i D1 12 3 (nI (a' + 4))) 9 18 (nI (a' + 4 - s))) 9 7 = zg_i (zp_i R1 0 28 (nI (a' + 4))) 0 31 := so1
      have h3 : zS n m g b m (a' + 4) (zp_i (zp_i D1 12 3 (nI (a' + 4))) 9 18 (nI (a' + 4 - s))) (zp_i R1 0 28 (nI (a' + 4))) := ⟨⟨h2.v.hn, h2.v.hm, h2.v.pC, h2.v.pR, h2.v.pB, h2.v.kC, h2.v.kR, h2.v.kB, h2.v.sz, h2.v.fa, h2.v.wh, h2.v.wa, h2.v.lo, h2.v.kr, h2.v.kc, h2.v.c0, h2.v.cs, h2.v.en, h2.v.hg, h2.v.gC, h2.v.gR, h2.v.gB, h2.v.bR, h2.v.bC, h2.v.bS⟩, h2.f, h2.nC, h2.nR, h2.eC, h2.ae, h2.em⟩
      obtain ⟨D', R', w1, w2, w3⟩ := s_end h3 (s := s) (by omega) so2 rfl h3.f
      refine ⟨_, D', R', ?_, w1, ?_, w3⟩
      · unfold c_idx2
        simp only [t5, h1.nC, v1, q2, n2, e4, Option.bind_some]
      · have f3 : zg_i (zp_i R1 0 28 (nI (a' + 4))) 0 29 = 0 := h3.f
        unfold r_idx2
        simp only [f0, t6, f1, q3, f3, Option.bind_some, not_true_eq_false, ↓reduceIte]
        exact w2
    · have h3 : zF n m g b (zp_i D' 9 18 (zg_i D' 12 3 - nI s)) R' := ⟨⟨q4.v.hn, q4.v.hm, q4.v.pC, q4.v.pR, q4.v.pB, q4.v.kC, q4.v.kR, q4.v.kB, q4.v.sz, q4.v.fa, q4.v.wh, q4.v.wa, q4.v.lo, q4.v.kr, q4.v.kc, q4.v.c0, q4.v.cs, q4.v.en, q4.v.hg, q4.v.gC, q4.v.gR, q4.v.gB, q4.v.bR, q4.v.bC, q4.v.bS⟩, q4.f, q4.nx⟩
      refine ⟨_, _, R', ?_, c_end0 h3.c, ?_, Or.inr h3⟩
      · unfold c_idx2
        simp only [t5, h1.nC, v1, q2, Option.bind_some]
      · have f3 := q4.f
        unfold r_idx2
        simp only [f0, t6, f1, q3, Option.bind_some, not_true_eq_false, ↓reduceIte]
        rw [if_pos f3]
  · obtain ⟨i, hi, hn⟩ := t7.nx
    obtain ⟨v, hv⟩ := c_sumx D' (p := s) (q := i) (by omega) (by omega)
    have h3 : zF n m g b (zp_i D' 9 18 (nI i - nI s)) R' := ⟨⟨t7.v.hn, t7.v.hm, t7.v.pC, t7.v.pR, t7.v.pB, t7.v.kC, t7.v.kR, t7.v.kB, t7.v.sz, t7.v.fa, t7.v.wh, t7.v.wa, t7.v.lo, t7.v.kr, t7.v.kc, t7.v.c0, t7.v.cs, t7.v.en, t7.v.hg, t7.v.gC, t7.v.gR, t7.v.gB, t7.v.bR, t7.v.bC, t7.v.bS⟩, t7.f, t7.nx⟩
    refine ⟨_, _, R', ?_, c_end0 h3.c, ?_, Or.inr h3⟩
    · unfold c_idx2
      simp only [t5, hn, hv, c_es0 _ _ t7.c, Option.bind_some]
    · have f0 := h.f
      have f3 := t7.f
      unfold r_idx2
      simp only [f0, t6, Option.bind_some, not_true_eq_false, ↓reduceIte]
      rw [if_pos f3, Option.bind_some, if_pos f3]
theorem s_index {n m g b a : Nat} {D R : zx_D} (h : zS n m g b m a D R) (ha : a < m) (hz : zg_i R 2 a = 0) (hb : b ≤ 40) (so : zg_i D 9 7 = zg_i R 0 31) :
    ∃ D1 D' R', g_Unp_readIndex D = some D1 ∧ g_Unp_readEnd D1 = some D' ∧ g_R_index R = some R' ∧ (zS n m g b m m D' R' ∨ zF n m g b D' R') := by
  have hm := h.v.hm
  have z4 : ¬ (1 : Int32) = 0 := by decide
  have h1 := h.go (a' := a + 1) (by omega)
  have e1 : g_Cur_expectByte 0 D = some (zp_i D 12 3 (nI (a + 1))) := by rw [c_ebE h 0 ha, if_pos hz]
  have p2 : g_R_has 1 R = some (1, R) := r_has1 h (k := 1) (by omega)
  have so1 : zg_i (zp_i D 12 3 (nI (a + 1))) 9 7 = zg_i (zp_i R 0 28 (nI (a + 1))) 0 31 := so
  have c10 : zg_i (zp_i D 12 3 (nI (a + 1))) 14 (zn 10) = nI b := h.v.bC
  have C : g_Unp_readIndex D = (g_Cur_expectNumber ((nI b).toInt64) (zp_i D 12 3 (nI (a + 1)))).bind fun q3 => (g_Unp_readIndex_44 (nI a) 10000 0 q3).bind fun q7 => c_idx2 (nI a) q7 := by
    simp only [g_Unp_readIndex, c_snd1 h.c, z4, e1, c10, h.nC, Option.bind_some, not_false_eq_true, ↓reduceIte]
    rfl
  have Q : g_R_index R = (g_R_expect (nI b) (zp_i R 0 28 (nI (a + 1)))).bind fun q2 => (g_R_index_34 (nI a) 10000 0 q2).bind fun q5 => r_idx2 (nI a) q5 := by
    simp only [g_R_index, p2, z4, h.v.bR, h.nR, y_1, Option.bind_some, not_false_eq_true, ↓reduceIte]
    rfl
  rw [C, Q]
  generalize zp_i D 12 3 (nI (a + 1)) = D1 at *
  generalize zp_i R 0 28 (nI (a + 1)) = R1 at *
  have dead : ∀ D2 R2, zF n m g b D2 R2 → g_Unp_readIndex_44 (nI a) 10000 0 D2 = some D2 ∧ g_R_index_34 (nI a) 10000 0 R2 = some R2 := by
    intro D2 R2 hF
    constructor
    · rw [g_Unp_readIndex_44]
      split
      · rfl
      · simp only [Option.bind_some, ↓reduceIte, not_true_eq_false, not_false_eq_true, y_1, c_snd0 hF.c]
    · rw [g_R_index_34]
      split
      · rfl
      · rw [if_pos hF.f]
  rcases s_exp h1 (nI b) with ⟨a1, u1, u2, u3, u4⟩ | ⟨D', R', u3, u4, u5⟩
  · have h2 := h1.go (a' := a1) u2
    have so2 : zg_i (zp_i D1 12 3 (nI a1)) 9 7 = zg_i (zp_i R1 0 28 (nI a1)) 0 31 := so1
    rw [u3, u4, Option.bind_some, Option.bind_some]
    generalize zp_i D1 12 3 (nI a1) = D2 at *
    generalize zp_i R1 0 28 (nI a1) = R2 at *
    rcases s_idxL (nI a) (nI a) b 10000 10000 0 a1 D2 R2 (by omega) (by omega) (by omega) h2 hb with ⟨a2, q1, q2, q3, q4⟩ | ⟨D', R', q3, q4, q5⟩
    · have q3 : g_Unp_readIndex_44 (nI a) 10000 0 D2 = _ := q3
      have q4 : g_R_index_34 (nI a) 10000 0 R2 = _ := q4
      have h3 := h2.go (a' := a2) q2
      have so3 : zg_i (zp_i D2 12 3 (nI a2)) 9 7 = zg_i (zp_i R2 0 28 (nI a2)) 0 31 := so2
      rw [q3, q4, Option.bind_some, Option.bind_some]
      exact s_idx2 h3 (by omega) so3
    · have q3 : g_Unp_readIndex_44 (nI a) 10000 0 D2 = _ := q3
      have q4 : g_R_index_34 (nI a) 10000 0 R2 = _ := q4
      obtain ⟨D3, w1, w2, w3⟩ := c_idx20 (s := a) (by omega) q5
      rw [q3, q4, Option.bind_some, Option.bind_some]
      exact ⟨D3, D3, R', w1, w2, r_idx2_0 _ q5.f, Or.inr w3⟩
  · obtain ⟨d1, d2⟩ := dead D' R' u5
    obtain ⟨D3, w1, w2, w3⟩ := c_idx20 (s := a) (by omega) u5
    rw [u3, u4, Option.bind_some, Option.bind_some, d1, d2, Option.bind_some, Option.bind_some]
    exact ⟨D3, D3, R', w1, w2, r_idx2_0 _ u5.f, Or.inr w3⟩
theorem s_index0 {n m g b : Nat} {D R : zx_D} (h : zS n m g b m m D R) : ∃ D' R', g_Unp_comesBlock D = some (0, D') ∧ g_R_index R = some R' ∧ zF n m g b D' R' := by
  have p1 : g_Cur_has 1 D = some (0, zp_i (zp_i D 12 4 (if m = m then -2 else -3)) 12 5 (nI m)) := c_has2 h (k := 1) (by omega) (by omega)
  rw [if_pos rfl] at p1
  have p2 : g_R_has 1 R = some (0, _) := r_has2 h (k := 1) (by omega) (by omega)
  have hF := h.fail (w := -2) (nI m) (by decide)
  exact ⟨_, _, by simp only [Option.bind_some, ↓reduceIte, not_true_eq_false, not_false_eq_true, y_1, g_Unp_comesBlock, p1], by simp only [Option.bind_some, ↓reduceIte, not_true_eq_false, not_false_eq_true, y_1, g_R_index, p2], hF⟩
