theorem r_blk3_0 {E : zx_D} (x1 x9 x10 : Int32) (s1 s2 : Int64) (h : zg_i E 0 29 ≠ 0) : r_blk3 x1 x9 x10 s1 s2 E = some E := by
  have hf : ∀ w p, g_R_fail w p E = some E := fun w p => r_fail0 w p h
  have q27 : ((
    if s1 < 0 then
      if s2 < 0 then
        some E
      else
        if s2 = (((zg_i E 0 5) - x10)).toInt64 then
          some E
        else
          (g_R_fail (-6) x1 E).bind fun q24 =>
          some q24
    else
      if ¬ s1 = (((zg_i E 0 28) - x9)).toInt64 then
        (g_R_fail (-6) x1 E).bind fun q25 =>
        some q25
      else
        if s2 < 0 then
          some E
        else
          if s2 = (((zg_i E 0 5) - x10)).toInt64 then
            some E
          else
            (g_R_fail (-6) x1 E).bind fun q26 =>
            some q26
  ) : Option (zx_D)) = some E := by
    rw [hf, Option.bind_some]
    split
    · split
      · rfl
      · split <;> rfl
    · split
      · rfl
      · split
        · rfl
        · split <;> rfl
  unfold r_blk3
  rw [q27, Option.bind_some, if_pos h, Option.bind_some]
  split
  · split
    · first | rfl | (rw [Option.bind_some, if_pos h])
    · first | rfl | (rw [Option.bind_some, if_pos h])
  · first | rfl | (rw [Option.bind_some, if_pos h])
theorem r_blk2_0 {E : zx_D} (x1 x9 x10 : Int32) (s1 s2 : Int64) (h : zg_i E 0 29 ≠ 0) : r_blk2 x1 x9 x10 s1 s2 0 E = some E := by
  have : g_R_block_324 x1 s1 s2 x9 x10 10000 0 E = some E := by
    rw [g_R_block_324, if_pos rfl]
  rw [r_blk2, this, Option.bind_some, r_blk3_0 _ _ _ _ _ h]
def c_hd3 (x : Int32) (q5 : zx_D) : Option zx_D :=
  (g_Cur_expectByte 33 q5).bind fun q6 =>
  (g_Cur_expectByte 1 q6).bind fun q7 =>
  (g_Cur_expectWithin 0 40 q7).bind fun q8 =>
  (g_Unp_readHead_137 x 10000 (zg_i q8 12 3) q8).bind fun q10 =>
  (g_Cur_widen q10).bind fun q11 =>
  some (zp_i q11 12 3 (x + 4))
theorem s_hd3F1 {n m g b e : Nat} {D E : zx_D} (x1 : Int32) (s1 s2 : Int64) (he : e + 4 ≤ m) (h : zF n m g b D E) :
    ∃ D' R', ((g_Unp_readHead_137 (nI e) 10000 (zg_i D 12 3) D).bind fun q10 => (g_Cur_widen q10).bind fun q11 => some (zp_i q11 12 3 (nI e + 4))) = some D' ∧ ((g_R_block_243 x1 (nI e) s1 s2 10000 E).bind fun q20 =>
  ((if ¬ zg_i q20 0 29 = 0 then some 0 else some 1) : Option Int32).bind fun q21 =>
  r_blk2 x1 (nI e + 4) (zg_i q20 0 5) s1 s2 q21 (zp_i (zp_i (zp_i q20 0 28 (nI e + 4)) 0 35 0) 0 36 1)) = some R' ∧ zF n m g b D' R' := by
  have hm := h.v.hm
  obtain ⟨i, hi, hnx⟩ := h.nx
  have e4 : nI e + 4 = nI (e + 4) := y_add e 4
  have c1 : g_Unp_readHead_137 (nI e) 10000 (nI i) D = some D := c_pad0 e (by omega) h.c (e - i) 10000 i (by omega) (by omega)
  have r1 : g_R_block_243 x1 (nI e) s1 s2 10000 E = some E := by rw [g_R_block_243, if_pos h.f]
  have hF : zF n m g b (zp_i (zp_i D 12 2 (zg_i D 12 1)) 12 3 (nI (e + 4))) (zp_i (zp_i (zp_i E 0 28 (nI (e + 4))) 0 35 0) 0 36 1) := ⟨⟨h.v.hn, h.v.hm, h.v.pC, h.v.pR, h.v.pB, h.v.kC, h.v.kR, h.v.kB, h.v.sz, h.v.fa, h.v.wh, h.v.wa, h.v.lo, h.v.kr, h.v.kc, h.v.c0, h.v.cs, h.v.en, h.v.hg, h.v.gC, h.v.gR, h.v.gB, h.v.bR, h.v.bC, h.v.bS⟩, h.f, e + 4, he, rfl⟩
  have hf := h.f
  refine ⟨_, _, ?_, ?_, hF⟩
  · simp only [Option.bind_some, ↓reduceIte, not_true_eq_false, not_false_eq_true, y_1, hnx, c1, g_Cur_widen, e4]
  · simp only [r1, Option.bind_some, e4]
    rw [if_pos hf, Option.bind_some]
    exact r_blk2_0 _ _ _ _ _ hF.f
theorem s_hd3 {n m g b e a : Nat} {D E : zx_D} (x1 : Int32) (s1 s2 : Int64) (he : e + 4 ≤ m) (h : zS n m g b e a D E) :
    (∃ D' E', a + 3 ≤ e ∧ c_hd3 (nI e) D = some D' ∧ r_hd3 x1 (nI e) s1 s2 E = r_blk2 x1 (nI (e + 4)) (nI g) s1 s2 1 E' ∧ zS n m g b m (e + 4) D' E' ∧ zg_l D' 9 10 = zg_l D 9 10 ∧ zg_l D' 9 11 = zg_l D 9 11 ∧ (∀ k, zg_i D' 9 k = zg_i D 9 k) ∧ zg_i E' 0 31 = zg_i E 0 31 ∧ zg_i E' 0 35 = 0 ∧ zg_i E' 0 36 = 1) ∨
    (∃ D' R', c_hd3 (nI e) D = some D' ∧ r_hd3 x1 (nI e) s1 s2 E = some R' ∧ zF n m g b D' R') := by
  have hm := h.v.hm
  have he' : e < m := by omega
  have e4 : nI e + 4 = nI (e + 4) := y_add e 4
  rcases s_hbx h he' 33 (by decide) with ⟨t1, t2, t3⟩ | ⟨D1, R1, t2, t3, t4⟩
  · have h1 := h.go (a' := a + 1) (by omega)
    rcases s_hbx h1 he' 1 (by decide) with ⟨u1, u2, u3⟩ | ⟨D1, R1, u2, u3, u4⟩
    · have h2 := h1.go (a' := a + 2) (by omega)
      rcases s_hb40 h2 he' with ⟨v1, v2, v3⟩ | ⟨D1, R1, v2, v3, v4⟩
      · have h3 := h2.go (a' := a + 3) (by omega)
        rcases s_pad x1 s1 s2 he' (e - (a + 3)) 10000 10000 (a + 3) _ _ (by omega) (by omega) (by omega) h3 with ⟨w1, w2⟩ | ⟨D1, R1, w1, w2, w3⟩
        · left
          have h4 := h3.go (a' := e) (Nat.le_refl _)
          have n8 := h3.nC
          have f4 := h4.f
          have g4 := h4.v.gR
          have sz4 := h4.v.sz
          have so4 : zg_i (zp_i (zp_i (zp_i (zp_i E 0 28 (nI (a + 1))) 0 28 (nI (a + 2))) 0 28 (nI (a + 3))) 0 28 (nI e)) 0 31 = zg_i E 0 31 := rfl
          have fr4 : ∀ k, zg_i (zp_i (zp_i (zp_i (zp_i D 12 3 (nI (a + 1))) 12 3 (nI (a + 2))) 12 3 (nI (a + 3))) 12 3 (nI e)) 9 k = zg_i D 9 k := fun k => rfl
          have l4 : zg_l (zp_i (zp_i (zp_i (zp_i D 12 3 (nI (a + 1))) 12 3 (nI (a + 2))) 12 3 (nI (a + 3))) 12 3 (nI e)) 9 10 = zg_l D 9 10 := rfl
          have l5 : zg_l (zp_i (zp_i (zp_i (zp_i D 12 3 (nI (a + 1))) 12 3 (nI (a + 2))) 12 3 (nI (a + 3))) 12 3 (nI e)) 9 11 = zg_l D 9 11 := rfl
          have E1 : c_hd3 (nI e) D = ((some (zp_i (zp_i (zp_i (zp_i D 12 3 (nI (a + 1))) 12 3 (nI (a + 2))) 12 3 (nI (a + 3))) 12 3 (nI e))).bind fun q10 => (g_Cur_widen q10).bind fun q11 => some (zp_i q11 12 3 (nI e + 4))) := by
            unfold c_hd3
            simp only [t2, u2, v2, n8, w1, Option.bind_some]
          have E2 : r_hd3 x1 (nI e) s1 s2 E = ((some (zp_i (zp_i (zp_i (zp_i E 0 28 (nI (a + 1))) 0 28 (nI (a + 2))) 0 28 (nI (a + 3))) 0 28 (nI e))).bind fun q20 => ((if ¬ zg_i q20 0 29 = 0 then some 0 else some 1) : Option Int32).bind fun q21 => r_blk2 x1 (nI e + 4) (zg_i q20 0 5) s1 s2 q21 (zp_i (zp_i (zp_i q20 0 28 (nI e + 4)) 0 35 0) 0 36 1)) := by
            unfold r_hd3
            simp only [t3, u3, v3, w2, Option.bind_some]
          rw [E1, E2]
          generalize zp_i (zp_i (zp_i (zp_i D 12 3 (nI (a + 1))) 12 3 (nI (a + 2))) 12 3 (nI (a + 3))) 12 3 (nI e) = D4 at *
          generalize zp_i (zp_i (zp_i (zp_i E 0 28 (nI (a + 1))) 0 28 (nI (a + 2))) 0 28 (nI (a + 3))) 0 28 (nI e) = E4 at *
          refine ⟨zp_i (zp_i D4 12 2 (nI m)) 12 3 (nI (e + 4)), zp_i (zp_i (zp_i E4 0 28 (nI (e + 4))) 0 35 0) 0 36 1, by omega, ?_, ?_, ⟨⟨h4.v.hn, h4.v.hm, h4.v.pC, h4.v.pR, h4.v.pB, h4.v.kC, h4.v.kR, h4.v.kB, h4.v.sz, h4.v.fa, h4.v.wh, h4.v.wa, h4.v.lo, h4.v.kr, h4.v.kc, h4.v.c0, h4.v.cs, h4.v.en, h4.v.hg, h4.v.gC, h4.v.gR, h4.v.gB, h4.v.bR, h4.v.bC, h4.v.bS⟩, h4.f, rfl, rfl, rfl, he, Nat.le_refl _⟩, l4, l5, fr4, so4, rfl, rfl⟩
          · simp only [Option.bind_some, ↓reduceIte, not_true_eq_false, not_false_eq_true, y_1, g_Cur_widen, sz4, e4]
          · simp only [Option.bind_some, ↓reduceIte, not_true_eq_false, not_false_eq_true, y_1, f4, g4, e4]
        · right
          obtain ⟨D', R', x1', x2', x3'⟩ := s_hd3F1 x1 s1 s2 he w3
          refine ⟨D', R', ?_, ?_, x3'⟩
          · rw [← x1']
            unfold c_hd3
            simp only [t2, u2, v2, h3.nC, w1, Option.bind_some]
            obtain ⟨i, hi, hnx⟩ := w3.nx
            rw [hnx, c_pad0 e (by omega) w3.c (e - i) 10000 i (by omega) (by omega), Option.bind_some]
          · rw [← x2']
            unfold r_hd3
            simp only [t3, u3, v3, w2, Option.bind_some]
            rw [show g_R_block_243 x1 (nI e) s1 s2 10000 R1 = some R1 from by rw [g_R_block_243, if_pos w3.f], Option.bind_some]
      · right
        obtain ⟨D', R', x1', x2', x3'⟩ := s_hd3F1 x1 s1 s2 he v4
        refine ⟨D', R', ?_, ?_, x3'⟩
        · rw [← x1']
          unfold c_hd3
          simp only [t2, u2, v2, Option.bind_some]
        · rw [← x2']
          unfold r_hd3
          simp only [t3, u3, v3, Option.bind_some]
    · right
      obtain ⟨D', R', x1', x2', x3'⟩ := s_hd3F1 x1 s1 s2 he u4
      refine ⟨D', R', ?_, ?_, x3'⟩
      · rw [← x1']
        unfold c_hd3
        simp only [t2, u2, c_ew0 _ _ u4.c, Option.bind_some]
      · rw [← x2']
        unfold r_hd3
        simp only [t3, u3, r_hb400 _ u4.f, Option.bind_some]
  · right
    obtain ⟨D', R', x1', x2', x3'⟩ := s_hd3F1 x1 s1 s2 he t4
    refine ⟨D', R', ?_, ?_, x3'⟩
    · rw [← x1']
      unfold c_hd3
      simp only [t2, c_eb0 _ t4.c, c_ew0 _ _ t4.c, Option.bind_some]
    · rw [← x2']
      unfold r_hd3
      simp only [t3, r_hbx0 _ _ t4.f, r_hb400 _ t4.f, Option.bind_some]
theorem s_hd3F {n m g b e : Nat} {D E : zx_D} (x1 : Int32) (s1 s2 : Int64) (he : e + 4 ≤ m) (h : zF n m g b D E) :
    ∃ D' R', c_hd3 (nI e) D = some D' ∧ r_hd3 x1 (nI e) s1 s2 E = some R' ∧ zF n m g b D' R' := by
  obtain ⟨D', R', x1', x2', x3'⟩ := s_hd3F1 x1 s1 s2 he h
  refine ⟨D', R', ?_, ?_, x3'⟩
  · rw [← x1']
    unfold c_hd3
    simp only [c_eb0 _ h.c, c_ew0 _ _ h.c, Option.bind_some]
  · rw [← x2']
    unfold r_hd3
    simp only [r_hbx0 _ _ h.f, r_hb400 _ h.f, Option.bind_some]
theorem c_hd30 {e i : Nat} {D : zx_D} (he : e ≤ 640) (hi : i ≤ 640) (hf : ¬ zg_i D 12 4 = 0) (hn : zg_i D 12 3 = nI i) : c_hd3 (nI e) D = some (zp_i (zp_i D 12 2 (zg_i D 12 1)) 12 3 (nI (e + 4))) := by
  have e4 : nI e + 4 = nI (e + 4) := y_add e 4
  have c1 : g_Unp_readHead_137 (nI e) 10000 (nI i) D = some D := c_pad0 e he hf (e - i) 10000 i (by omega) (by omega)
  unfold c_hd3
  simp only [c_eb0 _ hf, c_ew0 _ _ hf, hn, c1, g_Cur_widen, e4, Option.bind_some]
theorem s_head {n m g b a c : Nat} {D R : zx_D} (h : zS n m g b m a D R) (hc1 : 1 ≤ c) (hc : c < 256) (hb : zg_i R 2 a = nI c) (ha : a < m) (bp : zg_i D 9 8 = nI a) :
    (∃ s1 s2 a' D' E, a + 12 ≤ a' ∧ a' ≤ m ∧ g_Unp_readHead D = some D' ∧ g_R_block R = r_blk2 (nI a) (nI a') (nI g) s1 s2 1 E ∧ zS n m g b m a' D' E ∧ zg_l D' 9 10 = s1 ∧ zg_l D' 9 11 = s2 ∧ (s1 = -1 ∨ y_P s1) ∧ (s2 = -1 ∨ y_P s2) ∧ (∀ k, zg_i D' 9 k = zg_i D 9 k) ∧ zg_i E 0 31 = zg_i R 0 31 ∧ zg_i E 0 35 = 0 ∧ zg_i E 0 36 = 1) ∨
    (∃ D' R', g_Unp_readHead D = some D' ∧ g_R_block R = some R' ∧ zF n m g b D' R') := by
  have hm := h.v.hm
  have z1 : zk_in (nI a) 640 = true := y_in (by omega) (by omega)
  have z2 : zn (nI a) = a := y_zn (by omega)
  have z4 : ¬ (1 : Int32) = 0 := by decide
  obtain ⟨b1, b2⟩ := h.v.kB a ha
  have bC : zg_i D 4 a = nI c := by rw [b1, hb]
  have m1 : 4 * nI c = nI (4 * c) := y_mul 4 c
  have m2 : 4 * nI (c + 1) = nI (4 * (c + 1)) := y_mul 4 (c + 1)
  have m3 : nI (a + 4 * (c + 1)) - 4 = nI (a + 4 * c) := by
    rw [show nI (a + 4 * (c + 1)) - 4 = nI (a + 4 * (c + 1) - 4) from y_sub (a := a + 4 * (c + 1)) (b := 4) (by omega)]
    congr 1
  rcases s_has h (k := 4 * (c + 1)) (by omega) with ⟨hs, p1, p2⟩ | ⟨hs, D', R', p1, p2, hF⟩
  · obtain ⟨w, r1, r2⟩ := s_num h.v (p := a + 4 * c) (c := 4) (by omega)
    obtain ⟨v, e1, e2⟩ := s_sum h.v (p := a) (q := a + 4 * c) (by omega) (by omega)
    have r1 : g_Cur_lowFirst (nI (a + 4 * c)) 4 D = some w := r1
    have r2 : g_R_number (nI (a + 4 * c)) 4 R = some w := r2
    by_cases hw : w = v
    · subst hw
      obtain ⟨k1, kc, hkc, k2⟩ := h.v.kB (a + 1) (by omega)
      have hlt : ¬ nI m < nI (a + 4 * c) := fun q => by have := (y_lt (by omega) (by omega)).mp q; omega
      have hn : zS n m g b (a + 4 * c) (a + 1) (zp_i (zp_i D 12 2 (nI (a + 4 * c))) 12 3 (nI (a + 1))) (zp_i R 0 28 (nI (a + 1))) := ⟨⟨h.v.hn, h.v.hm, h.v.pC, h.v.pR, h.v.pB, h.v.kC, h.v.kR, h.v.kB, h.v.sz, h.v.fa, h.v.wh, h.v.wa, h.v.lo, h.v.kr, h.v.kc, h.v.c0, h.v.cs, h.v.en, h.v.hg, h.v.gC, h.v.gR, h.v.gB, h.v.bR, h.v.bC, h.v.bS⟩, h.f, rfl, rfl, rfl, by omega, by omega⟩
      have sz := h.v.sz
      have n3 : zg_i (zp_i D 12 2 (nI (a + 4 * c))) 12 3 = nI a := h.nC
      have C1 : g_Unp_readHead D = (g_Unp_readHeadNumbers (zp_i (zp_i D 12 2 (nI (a + 4 * c))) 12 3 (nI (a + 1)))).bind fun q5 => c_hd3 (nI (a + 4 * c)) q5 := by
        simp only [g_Unp_readHead, bp, z1, z2, bC, y_1, m2, p1, z4, y_add, m3, r1, e1, g_Cur_narrow, sz, hlt, n3, Option.bind_some, ↓reduceIte, not_true_eq_false, not_false_eq_true]
        rfl
      by_cases h64 : kc % 64 = 0
      · have h63 : nI kc &&& 63 = 0 := by rw [y_and63 hkc, h64]; rfl
        have R1 := r_block h hc1 hc hb hs e2 r2 k2 hkc h63
        rcases s_nums hn (by omega) (by omega) k2 hkc h64 with ⟨s1, s2, a', D1, E1, E2, t1, t2, t3, t4, t5, t6, t7, t8, t9, t10, t11, t12⟩ | ⟨s1, s2, D1, E1, E2, t3, t4, t5, t6⟩
        · rw [y_pp] at t4
          rcases s_hd3 (nI a) s1 s2 (by omega) t6 with ⟨D', E', u1, u2, u3, u4, u5, u6, u7, u8, u9, u10⟩ | ⟨D', R', u2, u3, u4⟩
          · left
            have e4 : a + 4 * c + 4 = a + 4 * (c + 1) := by omega
            rw [e4] at u3 u4
            refine ⟨s1, s2, a + 4 * (c + 1), D', E', by omega, hs, by rw [C1, t3, Option.bind_some, u2], ?_, u4, by rw [u5, t7], by rw [u6, t8], t9, t10, fun k => by rw [u7 k, t11 k]; rfl, by rw [u8, t12]; rfl, u9, u10⟩
            rw [R1, t4, Option.bind_some, t5, Option.bind_some]
            exact u3
          · right
            refine ⟨D', R', by rw [C1, t3, Option.bind_some, u2], ?_, u4⟩
            rw [R1, t4, Option.bind_some, t5, Option.bind_some]
            exact u3
        · right
          rw [y_pp] at t4
          obtain ⟨D', R', u2, u3, u4⟩ := s_hd3F (nI a) s1 s2 (e := a + 4 * c) (by omega) t6
          refine ⟨D', R', by rw [C1, t3, Option.bind_some, u2], ?_, u4⟩
          rw [R1, t4, Option.bind_some, t5, Option.bind_some]
          exact u3
      · right
        have h63 : ¬ nI kc &&& 63 = 0 := by
          rw [y_and63 hkc]
          exact fun q => h64 ((y_eq (b := 0) (by omega) (by omega)).mp q)
        have z1' : zk_in (nI (a + 1)) 640 = true := y_in (by omega) (by omega)
        have z2' : zn (nI (a + 1)) = a + 1 := y_zn (by omega)
        have hn0 : zS n m g b (a + 4 * c) (a + 1) (zp_l (zp_l (zp_i (zp_i D 12 2 (nI (a + 4 * c))) 12 3 (nI (a + 1))) 9 10 (-1)) 9 11 (-1)) (zp_i R 0 28 (nI (a + 1))) := ⟨⟨hn.v.hn, hn.v.hm, hn.v.pC, hn.v.pR, hn.v.pB, hn.v.kC, hn.v.kR, hn.v.kB, hn.v.sz, hn.v.fa, hn.v.wh, hn.v.wa, hn.v.lo, hn.v.kr, hn.v.kc, hn.v.c0, hn.v.cs, hn.v.en, hn.v.hg, hn.v.gC, hn.v.gR, hn.v.gB, hn.v.bR, hn.v.bC, hn.v.bS⟩, hn.f, hn.nC, hn.nR, hn.eC, hn.ae, hn.em⟩
        have hF := hn0.fail (w := -3) (nI (a + 1)) (by decide)
        have rm : ¬ zo_rem (nI kc) 64 = 0 := by
          rw [show (64 : Int32) = nI 64 from rfl, y_rem (by omega) (by omega)]
          exact fun q => h64 ((y_eq (b := 0) (by omega) (by omega)).mp q)
        have bk : zg_i (zp_l (zp_l (zp_i (zp_i D 12 2 (nI (a + 4 * c))) 12 3 (nI (a + 1))) 9 10 (-1)) 9 11 (-1)) 4 (a + 1) = nI kc := by rw [← k2]; exact k1
        have hh : g_Cur_has 1 (zp_l (zp_l (zp_i (zp_i D 12 2 (nI (a + 4 * c))) 12 3 (nI (a + 1))) 9 10 (-1)) 9 11 (-1)) = some (1, _) := c_has1 hn0 (k := 1) (by omega)
        have C2 : g_Unp_readHeadNumbers (zp_i (zp_i D 12 2 (nI (a + 4 * c))) 12 3 (nI (a + 1))) = some (zp_i (zp_i (zp_l (zp_l (zp_i (zp_i D 12 2 (nI (a + 4 * c))) 12 3 (nI (a + 1))) 9 10 (-1)) 9 11 (-1)) 12 4 (-3)) 12 5 (nI (a + 1))) := by
          simp only [Option.bind_some, ↓reduceIte, not_true_eq_false, not_false_eq_true, y_1, g_Unp_readHeadNumbers, hh, z4, hn0.nC, z1', z2', bk, rm, c_fail1 _ _ hn0.c]
        have C3 := c_hd30 (e := a + 4 * c) (i := a + 1) (by omega) (by omega) hF.c hn0.nC
        have f2 : zg_i (zp_i R 0 28 (nI (a + 1))) 0 29 = 0 := h.f
        have C4 : g_R_block R = some (zp_i (zp_i (zp_i R 0 28 (nI (a + 1))) 0 30 (nI (a + 1))) 0 29 (-3)) := by
          simp only [g_R_block, h.nR, z1, z2, hb, y_1, m1, m2, y_add, p2, z4, r2, e2, z1', z2', k2, h63, r_fail1 _ _ f2, Option.bind_some, ↓reduceIte, not_true_eq_false, not_false_eq_true]
        rw [C2, Option.bind_some, C3] at C1
        exact ⟨_, _, C1, C4, ⟨⟨hF.v.hn, hF.v.hm, hF.v.pC, hF.v.pR, hF.v.pB, hF.v.kC, hF.v.kR, hF.v.kB, hF.v.sz, hF.v.fa, hF.v.wh, hF.v.wa, hF.v.lo, hF.v.kr, hF.v.kc, hF.v.c0, hF.v.cs, hF.v.en, hF.v.hg, hF.v.gC, hF.v.gR, hF.v.gB, hF.v.bR, hF.v.bC, hF.v.bS⟩, hF.f, a + 4 * c + 4, by omega, rfl⟩⟩
    · right
      have hF := h.fail (w := -4) (nI (a + 4 * c)) (by decide)
      refine ⟨_, _, ?_, ?_, hF⟩
      · simp only [g_Unp_readHead, bp, z1, z2, bC, y_1, m2, p1, z4, y_add, m3, r1, e1, hw, c_fail1 _ _ h.c, Option.bind_some, ↓reduceIte, not_true_eq_false, not_false_eq_true]
      · simp only [g_R_block, h.nR, z1, z2, hb, y_1, m1, m2, y_add, p2, z4, r2, e2, hw, r_fail1 _ _ h.f, Option.bind_some, ↓reduceIte, not_true_eq_false, not_false_eq_true]
  · right
    refine ⟨D', R', ?_, ?_, hF⟩
    · simp only [Option.bind_some, ↓reduceIte, not_true_eq_false, not_false_eq_true, y_1, g_Unp_readHead, bp, z1, z2, bC, m2, p1]
    · simp only [Option.bind_some, ↓reduceIte, not_true_eq_false, not_false_eq_true, y_1, g_R_block, h.nR, z1, z2, hb, m2, p2]
