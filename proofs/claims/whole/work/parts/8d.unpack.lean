theorem s_iter {n m g b a f : Nat} {D R : zx_D} {x1 : Int32} {k i r1 r2 : Nat} (hk : 1 ≤ k) (hi : i < 640) (h : zC n m g b a f D R) : zTn n m g b a x1 k i r1 r2 D R := by
  have hs := h.S
  have hv := hs.v
  have hm := hv.hm
  have z1 : ¬ (1 : Int32) = 0 := by decide
  rcases s_has hs (k := 1) (by omega) with ⟨ha1, ha2, ha3⟩ | ⟨ha1, D', R', ha2, ha3, ha4⟩
  · have ha2 : g_Cur_has 1 D = some (1, D) := ha2
    obtain ⟨kb1, c, hc, kb2⟩ := hv.kB a (by omega)
    have hC : zg_i D 4 a = nI c := kb1.trans kb2
    have zi0 : zk_in (nI a) 640 = true := y_in (by omega) (by omega)
    have zn0 : zn (nI a) = a := y_zn (by omega)
    rcases s_ctl h (by omega) hc hC kb2 with c0 | ⟨al, rc, c0⟩ | ⟨c0, c1, al, hb, he⟩
    · -- the end of the chunks
      subst c0
      left
      have al : g_Unp_isAllowed (zp_i D 9 15 (nI 0)) = some 1 := by
        rw [g_Unp_isAllowed]
        exact if_neg (fun t => t rfl)
      have h5 : g_Unp_readChunkHead D = some (zp_i (zp_i D 9 15 (nI 0)) 12 3 (nI (a + 1))) := by
        have e0 : ¬ ¬ nI 0 = 0 := fun q => q rfl
        simp only [g_Unp_readChunkHead, ha2, z1, hs.nC, zi0, zn0, hC, al, e0, y_1, o_sb, ↓reduceIte, not_false_eq_true]
      obtain ⟨T1, T2, T3, T4⟩ := c_turn (x1 := x1) (k := k) (r1 := r1) (r2 := r2) hi hs.c h5
      refine ⟨zp_i (zp_i D 9 15 (nI 0)) 12 3 (nI (a + 1)), zp_i R 0 28 (nI (a + 1)), ha1, T1 rfl, ?_, ⟨⟨hv.hn, hv.hm, hv.pC, hv.pR, hv.pB, hv.kC, hv.kR, hv.kB, hv.sz, hv.fa, hv.wh, hv.wa, hv.lo, hv.kr, hv.kc, hv.c0, hv.cs, hv.en, hv.hg, hv.gC, hv.gR, hv.gB, hv.bR, hv.bC, hv.bS⟩, hs.f, rfl, rfl, hs.eC, ha1, hs.em⟩, ⟨fun k hk => by rcases hk with rfl | rfl | rfl <;> rfl, fun k => rfl, rfl⟩⟩
      have ha3 : g_R_has 1 R = some (1, R) := ha3
      rw [g_R_chunk, ha3, o_sb]
      show (if ¬ (1 : Int32) = 0 then _ else _) = _
      rw [if_pos z1, hs.nR, if_pos zi0, zn0, kb2]
      rw [show ((if nI 0 = 1 then some 1 else if nI 0 < 224 then some 0 else some 1) : Option Int32) = some 0 from rfl, o_sb, if_pos (by decide), g_R_chunk_50, if_pos (by decide), g_R_chunk_65, if_pos (by decide), g_R_chunk_98, if_neg (fun q => q rfl), hs.nR, y_1]
    · -- not allowed
      right
      left
      have hf : g_Cur_fail (-3) (nI a) (zp_i D 9 15 (nI c)) = some (zp_i (zp_i (zp_i D 9 15 (nI c)) 12 4 (-3)) 12 5 (nI a)) := c_fail1 _ _ hs.c
      have hS2 : zS n m g b m a (zp_i D 9 15 (nI c)) R := ⟨⟨hv.hn, hv.hm, hv.pC, hv.pR, hv.pB, hv.kC, hv.kR, hv.kB, hv.sz, hv.fa, hv.wh, hv.wa, hv.lo, hv.kr, hv.kc, hv.c0, hv.cs, hv.en, hv.hg, hv.gC, hv.gR, hv.gB, hv.bR, hv.bC, hv.bS⟩, hs.f, hs.nC, hs.nR, hs.eC, hs.ae, hs.em⟩
      have hF := hS2.fail (w := -3) (nI a) (by decide)
      have h5 : g_Unp_readChunkHead D = some (zp_i (zp_i (zp_i D 9 15 (nI c)) 12 4 (-3)) 12 5 (nI a)) := by
        simp only [g_Unp_readChunkHead, ha2, z1, hs.nC, zi0, zn0, hC, al, hf, o_sb, ↓reduceIte, not_false_eq_true, not_true_eq_false]
      obtain ⟨T1, T2, T3, T4⟩ := c_turn (x1 := x1) (k := k) (r1 := r1) (r2 := r2) hi hs.c h5
      exact ⟨g, r1, r2, _, _, 0, T2 hF.c, rc, hF⟩
    · obtain ⟨E1, E2⟩ := c_headE hs (by omega) hC c0 hc al
      rcases he with ⟨hR, hem⟩ | ⟨hR, hem, h35⟩
      · -- emptying
        have hQ := E1 hem
        have hS1 : zS n m g b m (a + 1) (zp_i (zp_i (zp_i (zp_i (zp_i D 9 15 (nI c)) 12 3 (nI (a + 1))) 9 13 0) 9 12 (nI g)) 9 14 1) (zp_i R 0 28 (nI (a + 1))) := ⟨⟨hv.hn, hv.hm, hv.pC, hv.pR, hv.pB, hv.kC, hv.kR, hv.kB, hv.sz, hv.fa, hv.wh, hv.wa, hv.lo, hv.kr, hv.kc, hv.c0, hv.cs, hv.en, hv.hg, hv.gC, hv.gR, hv.gB, hv.bR, hv.bC, hv.bS⟩, hs.f, rfl, rfl, hs.eC, ha1, hs.em⟩
        have yy : zY D (zp_i (zp_i (zp_i (zp_i (zp_i D 9 15 (nI c)) 12 3 (nI (a + 1))) 9 13 0) 9 12 (nI g)) 9 14 1) R R := ⟨fun k hk => by rcases hk with rfl | rfl | rfl <;> rfl, fun k => rfl, rfl⟩
        by_cases t : c ≤ 2
        · exact s_chP (f := g) hk hi hs (by omega) t hQ hR hS1 rfl rfl yy (Or.inl ⟨z1, rfl, rfl, rfl⟩)
        · exact s_chC (f := g) hk hi hs (by omega) hc hQ hR hS1 rfl rfl yy (Or.inl ⟨by omega, rfl, rfl⟩)
      · -- keeping
        have hQ := E2 hem
        have hS1 : zS n m g b m (a + 1) (zp_i (zp_i (zp_i D 9 15 (nI c)) 12 3 (nI (a + 1))) 9 13 0) (zp_i R 0 28 (nI (a + 1))) := ⟨⟨hv.hn, hv.hm, hv.pC, hv.pR, hv.pB, hv.kC, hv.kR, hv.kB, hv.sz, hv.fa, hv.wh, hv.wa, hv.lo, hv.kr, hv.kc, hv.c0, hv.cs, hv.en, hv.hg, hv.gC, hv.gR, hv.gB, hv.bR, hv.bC, hv.bS⟩, hs.f, rfl, rfl, hs.eC, ha1, hs.em⟩
        have yy : zY D (zp_i (zp_i (zp_i D 9 15 (nI c)) 12 3 (nI (a + 1))) 9 13 0) R R := ⟨fun k hk => by rcases hk with rfl | rfl | rfl <;> rfl, fun k => rfl, rfl⟩
        rcases h.em with ⟨q1, q2, q3, q4⟩ | ⟨q1, q2, q3, q4, q5, q6⟩
        · exact absurd (q2.symm.trans h35) (by decide)
        · have q6' : (zg_i (zp_i (zp_i (zp_i D 9 15 (nI c)) 12 3 (nI (a + 1))) 9 13 0) 9 14 = 1 ∧ zg_i R 0 36 = 1) ∨ (zg_i (zp_i (zp_i (zp_i D 9 15 (nI c)) 12 3 (nI (a + 1))) 9 13 0) 9 14 = 0 ∧ zg_i R 0 36 = 0 ∧ zMd g f (zp_i (zp_i (zp_i D 9 15 (nI c)) 12 3 (nI (a + 1))) 9 13 0) R) := by
            rcases q6 with q | ⟨u1, u2, u3⟩
            · exact Or.inl q
            · exact Or.inr ⟨u1, u2, u3.fr (Nat.le_refl _) (fun k => rfl) (fun k _ _ => rfl) (fun k => rfl) (fun k _ _ => rfl) (fun k => rfl) (fun k _ _ => rfl)⟩
          by_cases t : c ≤ 2
          · exact s_chP (f := f) hk hi hs (by omega) t hQ hR hS1 rfl rfl yy (Or.inr ⟨rfl, q2, q3, q4, q5, q6'⟩)
          · refine s_chC (f := f) hk hi hs (by omega) hc hQ hR hS1 rfl rfl yy (Or.inr ⟨by omega, q2, q3, q4, q5, fun u => ?_⟩)
            have hb' := hb (by omega) u
            rcases q6' with ⟨u1, u2⟩ | q
            · exact absurd (u2.symm.trans hb') (by decide)
            · exact q
  · right
    left
    have ha2 : g_Cur_has 1 D = some (0, D') := ha2
    have ha3 : g_R_has 1 R = some (0, R') := ha3
    have h5 : g_Unp_readChunkHead D = some D' := by
      simp only [g_Unp_readChunkHead, ha2, o_sb, ↓reduceIte, not_true_eq_false]
    obtain ⟨T1, T2, T3, T4⟩ := c_turn (x1 := x1) (k := k) (r1 := r1) (r2 := r2) hi hs.c h5
    refine ⟨g, r1, r2, D', R', 0, T2 ha4.c, ?_, ha4⟩
    simp only [g_R_chunk, ha3, o_sb, ↓reduceIte, not_true_eq_false]
theorem s_chunks {n m b : Nat} (x1 y1 y9 y10 : Int32) (y5 y7 : Int64) : ∀ (j k1 k2 i g a f r1 r2 : Nat) (D R : zx_D), m - a ≤ j → j + 1 < k1 → j + 2 < k2 → i < a → zC n m g b a f D R →
    (∃ s1 s2 g' a' D1 R1, g_Unp_readBlock_46 x1 k1 (nI i) r1 r2 D = ((g_Unp_closeBlock x1 D1).bind fun q6 => some (s1, s2, q6)) ∧ g_R_block_324 y1 y5 y7 y9 y10 k2 1 R = some R1 ∧ zS n m g' b m a' D1 R1 ∧ a + 1 ≤ a' ∧ g ≤ g' ∧ zY D D1 R R1) ∨
    (∃ s1 s2 g' D1 R1, g_Unp_readBlock_46 x1 k1 (nI i) r1 r2 D = some (s1, s2, D1) ∧ g_R_block_324 y1 y5 y7 y9 y10 k2 1 R = some R1 ∧ zF n m g' b D1 R1)
  | j, k1 + 1, k2 + 1, i, g, a, f, r1, r2, D, R, hj, h1, h2, hi, h => by
    have z1 : ¬ (1 : Int32) = 0 := by decide
    have hm := h.S.v.hm
    have ham := h.S.ae
    have stop : ∀ R1 : zx_D, ∀ k, 1 ≤ k → g_R_block_324 y1 y5 y7 y9 y10 k 0 R1 = some R1 := by
      intro R1 k hk
      match k, hk with
      | k + 1, _ => rw [g_R_block_324, if_pos rfl]
    have hi640 : i < 640 := by omega
    rcases s_iter (x1 := x1) (k := k1) (i := i) (r1 := r1) (r2 := r2) (by omega) hi640 h with ⟨D1, R1, t1, t2, t3, t4, t5⟩ | ⟨g', s1, s2, D1, R1, q, t1, t2, t3⟩ | ⟨g', a', f', s1, s2, D1, R1, t1, t2, t3, t4, t5, t6⟩
    · left
      refine ⟨r1, r2, g, a + 1, D1, R1, t2, ?_, t4, by omega, Nat.le_refl _, t5⟩
      rw [g_R_block_324, if_neg z1, t3, o_sb]
      exact (if_pos rfl).trans (stop R1 k2 (by omega))
    · right
      refine ⟨s1, s2, g', D1, R1, t1, ?_, t3⟩
      rw [g_R_block_324, if_neg z1, t2, o_sb]
      by_cases u : q = 0
      · exact (if_pos u).trans (stop R1 k2 (by omega))
      · exact (if_neg u).trans ((if_pos t3.f).trans (stop R1 k2 (by omega)))
    · have ham' := t3.S.ae
      have E2 : g_R_block_324 y1 y5 y7 y9 y10 (k2 + 1) 1 R = g_R_block_324 y1 y5 y7 y9 y10 k2 1 R1 := by
        rw [g_R_block_324, if_neg z1, t2, o_sb]
        exact (if_neg z1).trans (if_neg (fun q => q t3.S.f))
      rw [t1, E2]
      match j, hj with
      | 0, hj => exact absurd hj (by omega)
      | j + 1, hj =>
        rcases s_chunks x1 y1 y9 y10 y5 y7 j k1 k2 (i + 1) g' a' f' s1 s2 D1 R1 (by omega) (by omega) (by omega) (by omega) t3 with ⟨p1, p2, g2, a2, D2, R2, v1, v2, v3, v4, v5, v6⟩ | ⟨p1, p2, g2, D2, R2, v1, v2, v3⟩
        · exact Or.inl ⟨p1, p2, g2, a2, D2, R2, v1, v2, v3, by omega, by omega, t6.trans v6⟩
        · exact Or.inr ⟨p1, p2, g2, D2, R2, v1, v2, v3⟩
theorem s_block {n m g b a c : Nat} {D R : zx_D} (sd ln : Nat) (h : zS n m g b m a D R) (hc1 : 1 ≤ c) (hc : c < 256) (hb : zg_i R 2 a = nI c) (ha : a < m) (so : zg_i D 9 7 = zg_i R 0 31) (hso : zg_i R 0 31 = 0 ∨ zg_i R 0 31 = 1 ∨ zg_i R 0 31 = 4) (hb16 : 12 + 16 * b ≤ a) :
    (∃ s1 s2 g' a' D' R', g_Unp_readBlock sd ln D = some (s1, s2, D') ∧ g_R_block R = some R' ∧ zS n m g' (b + 1) m a' D' R' ∧ 12 + 16 * (b + 1) ≤ a' ∧ zg_i D' 9 7 = zg_i R' 0 31 ∧ (zg_i R' 0 31 = 0 ∨ zg_i R' 0 31 = 1 ∨ zg_i R' 0 31 = 4)) ∨
    (∃ s1 s2 g' D' R', g_Unp_readBlock sd ln D = some (s1, s2, D') ∧ g_R_block R = some R' ∧ zF n m g' b D' R') := by
  have hv := h.v
  have hm := hv.hm
  have hS0 : zS n m g b m a (zp_i (zp_i (zp_i (zp_i D 9 8 (nI a)) 9 9 (nI g)) 9 13 1) 9 14 1) R := ⟨⟨hv.hn, hv.hm, hv.pC, hv.pR, hv.pB, hv.kC, hv.kR, hv.kB, hv.sz, hv.fa, hv.wh, hv.wa, hv.lo, hv.kr, hv.kc, hv.c0, hv.cs, hv.en, hv.hg, hv.gC, hv.gR, hv.gB, hv.bR, hv.bC, hv.bS⟩, h.f, h.nC, h.nR, h.eC, h.ae, h.em⟩
  have e0 : g_Unp_readBlock sd ln D = (g_Unp_readHead (zp_i (zp_i (zp_i (zp_i D 9 8 (nI a)) 9 9 (nI g)) 9 13 1) 9 14 1)).bind fun q1 => g_Unp_readBlock_46 (zg_i q1 12 3) 10000 0 sd ln q1 := by
    rw [g_Unp_readBlock, h.nC, hv.gC]
  rw [e0]
  rcases s_head hS0 hc1 hc hb ha rfl with ⟨s1, s2, a', D', E, t1, t2, t3, t4, t5, t6, t7, t8, t9, t10, t11, t12, t13⟩ | ⟨D', R', t1, t2, t3⟩
  · rw [t3, t4, o_sb, t5.nC]
    have hC : zC n m g b a' 0 D' E := ⟨t5, Or.inl ⟨(t10 13).trans rfl, t12, (t10 14).trans rfl, t13⟩⟩
    rcases s_chunks (nI a') (nI a) (nI a') (nI g) s1 s2 640 10000 10000 0 g a' 0 sd ln D' E (by omega) (by omega) (by omega) (by omega) hC with ⟨p1, p2, g2, a2, D2, R2, v1, v2, v3, v4, v5, v6⟩ | ⟨p1, p2, g2, D2, R2, v1, v2, v3⟩
    · have v1 : g_Unp_readBlock_46 (nI a') 10000 0 sd ln D' = _ := v1
      have e2 : r_blk2 (nI a) (nI a') (nI g) s1 s2 1 E = r_blk3 (nI a) (nI a') (nI g) s1 s2 R2 := by
        rw [r_blk2, v2, o_sb]
      rw [v1, e2]
      have y10 : zg_l D2 9 10 = s1 := (v6.cl 10).trans t6
      have y11 : zg_l D2 9 11 = s2 := (v6.cl 11).trans t7
      have y8 : zg_i D2 9 8 = nI a := (v6.c 8 (by omega)).trans ((t10 8).trans rfl)
      have y9 : zg_i D2 9 9 = nI g := (v6.c 9 (by omega)).trans ((t10 9).trans rfl)
      have y31 : zg_i R2 0 31 = zg_i R 0 31 := v6.r.trans t11
      have y7 : zg_i D2 9 7 = zg_i R2 0 31 := (v6.c 7 (by omega)).trans ((t10 7).trans (so.trans y31.symm))
      rcases s_close (a0 := a') v3 y7 (by rw [y31]; exact hso) y8 y9 v5 (by omega) hb16 (by omega) (by rw [y10]; exact t8) (by rw [y11]; exact t9) with ⟨a3, D3, R3, w1, w2, w3, w4, w5, w6⟩ | ⟨D3, R3, w1, w2, w3⟩
      · left
        rw [y10, y11] at w2
        refine ⟨p1, p2, g2, a3, D3, R3, by rw [w1, o_sb], w2, w3, w4, w5, ?_⟩
        rw [w6, y31]
        exact hso
      · right
        rw [y10, y11] at w2
        exact ⟨p1, p2, g2, D3, R3, by rw [w1, o_sb], w2, w3⟩
    · right
      have v1 : g_Unp_readBlock_46 (nI a') 10000 0 sd ln D' = _ := v1
      refine ⟨p1, p2, g2, D2, R2, v1, ?_, v3⟩
      rw [r_blk2, v2, o_sb]
      exact r_blk3_0 _ _ _ _ _ v3.f
  · right
    exact ⟨sd, ln, g, D', R', by rw [t1, o_sb]; exact c_it0 _ _ _ _ _ t3.c, t2, t3⟩
def zBl (n m : Nat) (D R : zx_D) : Prop :=
  (∃ g b, zF n m g b D R) ∨
  (∃ g b a, zS n m g b m a D R ∧ a < m ∧ zg_i R 2 a = 0 ∧ b ≤ 40 ∧ zg_i D 9 7 = zg_i R 0 31) ∨
  (∃ g b R', zg_i R 0 29 = 0 ∧ g_R_index R = some R' ∧ zF n m g b D R')
theorem s_blocks {n m : Nat} : ∀ (j k1 k2 g b a r1 r2 : Nat) (D R : zx_D), 40 - b ≤ j → j + 1 < k1 → j + 1 < k2 → zS n m g b m a D R → 12 + 16 * b ≤ a → zg_i D 9 7 = zg_i R 0 31 → (zg_i R 0 31 = 0 ∨ zg_i R 0 31 = 1 ∨ zg_i R 0 31 = 4) →
    ∃ s1 s2 D1 R1, g_P_unpack_20 k1 (nI b) r1 r2 D = some (s1, s2, D1) ∧ g_R_unpack_67 k2 R = some R1 ∧ zBl n m D1 R1
  | j, k1 + 1, k2 + 1, g, b, a, r1, r2, D, R, hj, h1, h2, h, h16, so, hso => by
    have z1 : ¬ (1 : Int32) = 0 := by decide
    have hv := h.v
    have hm := hv.hm
    have ham := h.ae
    have e640 : ¬ (640 : Int32) ≤ nI b := fun q => by have := (y_le (a := 640) (by omega) (by omega)).mp q; omega
    have f0 : ¬ ¬ zg_i R 0 29 = 0 := fun q => q h.f
    by_cases ha : a < m
    · have hh := c_has1 h (k := 1) (by omega)
      have hh : g_Cur_has 1 D = some (1, D) := hh
      obtain ⟨kb1, c, hc, kb2⟩ := hv.kB a ha
      have zi0 : zk_in (nI a) 640 = true := y_in (by omega) (by omega)
      have zn0 : zn (nI a) = a := y_zn (by omega)
      have hC : zg_i D 4 a = nI c := kb1.trans kb2
      have l3 : ¬ zg_i R 0 3 ≤ nI a := by
        rw [hv.kR]
        intro q
        have := (y_le (by omega) (by omega)).mp q
        omega
      by_cases hc0 : c = 0
      · subst hc0
        have cb : g_Unp_comesBlock D = some (0, D) := by
          have e0 : nI 0 = 0 := rfl
          simp only [g_Unp_comesBlock, hh, z1, h.nC, zi0, zn0, hC, e0, o_sb, ↓reduceIte]
        refine ⟨r1, r2, D, R, ?_, ?_, Or.inr (Or.inl ⟨g, b, a, h, ha, kb2, by omega, so⟩)⟩
        · simp only [g_P_unpack_20, e640, cb, o_sb, ↓reduceIte]
        · have e0 : nI 0 = 0 := rfl
          simp only [g_R_unpack_67, f0, h.nR, l3, zi0, zn0, kb2, e0, ↓reduceIte]
      · have n0 : ¬ nI c = 0 := fun q => hc0 ((y_eq (b := 0) (by omega) (by omega)).mp q)
        have cb : g_Unp_comesBlock D = some (1, D) := by
          simp only [g_Unp_comesBlock, hh, z1, h.nC, zi0, zn0, hC, n0, o_sb, ↓reduceIte]
        have E1 : ∀ s1 s2 D', g_Unp_readBlock r1 r2 D = some (s1, s2, D') → g_P_unpack_20 (k1 + 1) (nI b) r1 r2 D = g_P_unpack_20 k1 (nI (b + 1)) s1 s2 D' := by
          intro s1 s2 D' hD
          simp only [g_P_unpack_20, e640, cb, z1, hD, y_1, o_sb, ↓reduceIte]
        have E2 : ∀ R', g_R_block R = some R' → g_R_unpack_67 (k2 + 1) R = g_R_unpack_67 k2 R' := by
          intro R' hR'
          simp only [g_R_unpack_67, f0, h.nR, l3, zi0, zn0, kb2, n0, hR', o_sb, ↓reduceIte]
        rcases s_block r1 r2 h (by omega) hc kb2 ha so hso h16 with ⟨s1, s2, g', a', D', R', t1, t2, t3, t4, t5, t6⟩ | ⟨s1, s2, g', D', R', t1, t2, t3⟩
        · rw [E1 s1 s2 D' t1, E2 R' t2]
          have ham' := t3.ae
          match j, hj with
          | 0, hj => exact absurd hj (by omega)
          | j + 1, hj => exact s_blocks j k1 k2 g' (b + 1) a' s1 s2 D' R' (by omega) (by omega) (by omega) t3 t4 t5 t6
        · rw [E1 s1 s2 D' t1, E2 R' t2]
          refine ⟨s1, s2, D', R', ?_, ?_, Or.inl ⟨g', b, t3⟩⟩
          · match k1, h1 with
            | k1 + 1, _ =>
              have e640' : ¬ (640 : Int32) ≤ nI (b + 1) := fun q => by have := (y_le (a := 640) (by omega) (by omega)).mp q; omega
              have cb' : g_Unp_comesBlock D' = some (0, D') := by
                simp only [g_Unp_comesBlock, c_has0 _ t3.c, o_sb, ↓reduceIte]
              simp only [g_P_unpack_20, e640', cb', o_sb, ↓reduceIte]
          · match k2, h2 with
            | k2 + 1, _ => rw [g_R_unpack_67, if_pos t3.f]
    · have hae : a = m := by omega
      subst hae
      obtain ⟨D', R', t1, t2, t3⟩ := s_index0 h
      refine ⟨r1, r2, D', R, ?_, ?_, Or.inr (Or.inr ⟨g, b, R', h.f, t2, t3⟩)⟩
      · simp only [g_P_unpack_20, e640, t1, o_sb, ↓reduceIte]
      · have l3 : zg_i R 0 3 ≤ zg_i R 0 28 := by
          rw [hv.kR, h.nR]
          exact Int32.le_refl _
        rw [g_R_unpack_67, if_neg f0, if_pos l3]
