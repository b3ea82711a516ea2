theorem s_chE {n m g b a a2 f G M c : Nat} {D R D5 R8 : zx_D} {x1 : Int32} {k i r1 r2 : Nat} (hk : 1 ≤ k) (hi : i < 640) (hs : zS n m g b m a D R) (h5 : g_Unp_readChunkHead D = some D5) (hR : g_R_chunk R = (g_R_has (nI M) R8).bind fun q9 => if q9.1 = 0 then some (1, q9.2) else (g_R_coded (nI G) (nI M) (nI c) q9.2).bind fun q10 => some (1, q10)) (h15 : zg_i D5 9 15 = nI c) (hc1 : 128 ≤ c) (ha : a ≤ a2)
    (h : zS n m g b m a2 D5 R8) (hc : c < 256) (hG1 : 1 ≤ G) (hG : G < 2 ^ 30) (hM1 : 1 ≤ M) (hM : M < 2 ^ 30) (h16 : zg_i D5 9 16 = nI G) (h17 : zg_i D5 9 17 = nI M) (h13 : zg_i D5 9 13 = 0) (h14 : zg_i D5 9 14 = 0) (h12 : zg_i D5 9 12 = nI f) (hfg : f ≤ g) (hb : c < 192 → zg_i R8 0 36 = 0) (hf1 : c < 224 → zg_i R8 0 23 = nI f ∧ zg_i R8 0 35 = 1) (hf2 : 224 ≤ c → f = g)
    (hm1 : c < 160 → zMd g f D5 R8) (hm2 : 160 ≤ c → ∃ lc lp pb, lc + lp ≤ 3 ∧ pb ≤ 4 ∧ zg_i D5 7 3 = nI lc ∧ zg_i D5 7 4 = nI lp ∧ zg_i D5 7 5 = nI pb ∧ zg_i R8 0 9 = nI lc ∧ zg_i R8 0 10 = nI lp ∧ zg_i R8 0 11 = nI pb ∧ (∀ k, k < 2052 + 768 * 2 ^ (lc + lp) → zg_i D5 6 k = 1024) ∧ (∀ k, k < 4 → zg_l D5 8 k = 1) ∧ zg_i D5 7 2 = 0) (hy : zY D D5 R R8) : zTn n m g b a x1 k i r1 r2 D R := by
  obtain ⟨k, rfl⟩ : ∃ j, k = j + 1 := ⟨k - 1, by omega⟩
  have z1 : ¬ (1 : Int32) = 0 := by decide
  have n15 : ¬ zg_i D5 9 15 = 0 := by
    rw [h15]
    intro q
    have := (y_eq (b := 0) (by omega) (by omega)).mp q
    omega
  have s15 : ¬ zg_i D5 9 15 < 128 := by
    rw [h15]
    intro q
    have := (y_lt (b := 128) (by omega) (by omega)).mp q
    omega
  obtain ⟨T1, T2, T3, T4⟩ := c_turn (x1 := x1) (k := k + 1) (r1 := r1) (r2 := r2) hi hs.c h5
  rcases s_cod2 r1 r2 h hc hG1 hG hM1 hM h16 h17 h13 h14 h12 hfg hb hf1 hf2 hm1 hm2 with ⟨D', R', u1, u2, u3, u4, u5, u6⟩ | ⟨s1, s2, g', D', R', u2, u3, u4, u5⟩ | ⟨s1, s2, D', R', u2, u3, u4⟩
  · refine Or.inr (Or.inr ⟨g + G, a2 + M, f, 4, 5, D', R', T4 4 5 D' n15 h.c s15 u2, ?_, u5, by omega, by omega, hy.trans u6⟩)
    rw [hR, u3]
    simp only [o_sb, z1, u4, ↓reduceIte]
  · refine Or.inr (Or.inl ⟨g', s1, s2, D', R', 1, ?_, ?_, u5⟩)
    · rw [T4 s1 s2 D' n15 h.c s15 u2]
      exact c_it0 _ _ _ _ _ u5.c
    · rw [hR, u3]
      simp only [o_sb, z1, u4, ↓reduceIte]
  · refine Or.inr (Or.inl ⟨g, s1, s2, D', R', 1, ?_, ?_, u4⟩)
    · rw [T4 s1 s2 D' n15 h.c s15 u2]
      exact c_it0 _ _ _ _ _ u4.c
    · rw [hR, u3]
      simp only [o_sb, ↓reduceIte]
theorem s_chC {n m g b a f c : Nat} {D R Q : zx_D} {x1 e2 : Int32} {k i r1 r2 : Nat} (hk : 1 ≤ k) (hi : i < 640) (hs : zS n m g b m a D R) (hc1 : 128 ≤ c) (hc : c < 256) (hQ : g_Unp_readChunkHead D = c_hd2 Q) (hR : g_R_chunk R = g_R_chunk_98 (nI c) e2 R) (h : zS n m g b m (a + 1) Q (zp_i R 0 28 (nI (a + 1)))) (h15 : zg_i Q 9 15 = nI c) (h13 : zg_i Q 9 13 = 0) (hy : zY D Q R R)
    (hx : (224 ≤ c ∧ zg_i Q 9 12 = nI g ∧ f = g) ∨ (c < 224 ∧ zg_i R 0 35 = 1 ∧ f ≤ g ∧ zg_i Q 9 12 = nI f ∧ zg_i R 0 23 = nI f ∧ (c < 192 → zg_i Q 9 14 = 0 ∧ zg_i R 0 36 = 0 ∧ zMd g f Q R))) : zTn n m g b a x1 k i r1 r2 D R := by
  have n0 : ¬ nI c = 0 := fun q => by have := (y_eq (b := 0) (by omega) (by omega)).mp q; omega
  have l128 : (128 : Int32) ≤ nI c := (y_le (a := 128) (by omega) (by omega)).mpr hc1
  have l128' : ¬ nI c < 128 := fun q => by have := (y_lt (b := 128) (by omega) (by omega)).mp q; omega
  have z1 : ¬ (1 : Int32) = 0 := by decide
  have hv := h.v
  have hm640 := hv.hm
  have e28 : zg_i R 0 28 + 1 = nI (a + 1) := by rw [hs.nR, y_1]
  rcases s_two h with ⟨x, y, hm3, hx1, hy1, t1, t2⟩ | ⟨D', R', t1, t2, t3⟩
  · have t2 := t2 (c % 32) (by omega)
    obtain ⟨G, hG⟩ : ∃ G, G = c % 32 * 65536 + x * 256 + y + 1 := ⟨_, rfl⟩
    rw [← hG] at t2
    have hGC : nI (x * 256 + y) + 1 + zo_shl (nI (c % 32)) 16 = nI G := by
      rw [y_1, y_shn (u := zo_shl (nI (c % 32)) 16) (r := c % 32) (s := 16) (w := c % 32 * 65536) rfl (by omega) rfl, y_add]
      congr 1
      omega
    have g15 : zg_i (zp_i Q 12 3 (nI (a + 1 + 2))) 9 15 = nI c := h15
    obtain ⟨Q2, hQ2⟩ : ∃ Q2, Q2 = zp_i (zp_i (zp_i Q 12 3 (nI (a + 1 + 2))) 9 16 (nI (x * 256 + y) + 1)) 9 16 (nI G) := ⟨_, rfl⟩
    have h5 : g_Unp_readChunkHead D = (g_Cur_readTwo Q2).bind fun q6 => (g_Unp_readProperties (zp_i q6.2 9 17 (q6.1 + 1))).bind fun q7 => some q7 := by
      rw [hQ, c_hd2, t1]
      simp only [o_sb, g15, l128', y_and31 hc, hGC, ↓reduceIte, ← hQ2]
    obtain ⟨R2, hR2⟩ : ∃ R2, R2 = zp_i (zp_i R 0 28 (nI (a + 1))) 0 28 (nI (a + 1 + 2)) := ⟨_, rfl⟩
    rw [← hR2] at t2
    have hS : zS n m g b m (a + 1 + 2) Q2 R2 := by
      subst hQ2 hR2
      exact ⟨⟨hv.hn, hv.hm, hv.pC, hv.pR, hv.pB, hv.kC, hv.kR, hv.kB, hv.sz, hv.fa, hv.wh, hv.wa, hv.lo, hv.kr, hv.kc, hv.c0, hv.cs, hv.en, hv.hg, hv.gC, hv.gR, hv.gB, hv.bR, hv.bC, hv.bS⟩, h.f, rfl, rfl, h.eC, by omega, h.em⟩
    have q15 : zg_i Q2 9 15 = nI c := by rw [hQ2]; exact h15
    have q13 : zg_i Q2 9 13 = 0 := by rw [hQ2]; exact h13
    have q14 : zg_i Q2 9 14 = zg_i Q 9 14 := by rw [hQ2]; rfl
    have q12 : zg_i Q2 9 12 = zg_i Q 9 12 := by rw [hQ2]; rfl
    have q16 : zg_i Q2 9 16 = nI G := by rw [hQ2]; rfl
    have q6 : ∀ p k, p ≠ 9 → p ≠ 12 → zg_i Q2 p k = zg_i Q p k := by
      intro p k a1 a2
      rw [hQ2]
      simp [y_gi, a1, a2]
    have q8 : ∀ p k, zg_l Q2 p k = zg_l Q p k := by
      intro p k
      rw [hQ2]
      rfl
    have qr : ∀ p k, ¬ (p = 0 ∧ k = 28) → zg_i R2 p k = zg_i R p k := by
      intro p k a1
      rw [hR2, y_gi, if_neg a1, y_gi, if_neg a1]
    have ql : ∀ p k, zg_l R2 p k = zg_l R p k := by
      intro p k
      rw [hR2]
      rfl
    have yy : zY D Q2 R R2 := hy.trans ⟨fun k hk => by rw [hQ2]; rcases hk with rfl | rfl | rfl <;> rfl, fun k => q8 9 k, qr 0 31 (by omega)⟩
    have hR98 : g_R_chunk R = (g_R_length 0 R2).bind fun q5 =>
      ((
        if nI c < 192 then
          some q5.2
        else
          if ¬ zg_i q5.2 0 29 = 0 then
            some q5.2
          else
            (g_R_has 1 q5.2).bind fun q6 =>
            if q6.1 = 0 then
              some q6.2
            else
              if zk_in (zg_i q6.2 0 28) 640 = true then
              (g_R_properties (zg_i q6.2 2 (zn (zg_i q6.2 0 28))) q6.2).bind fun q7 =>
              some (zp_i q7 0 28 ((zg_i q7 0 28) + 1))
              else none
      ) : Option (zx_D)).bind fun q8 =>
      if ¬ zg_i q8 0 29 = 0 then
        some (1, q8)
      else
        (g_R_has q5.1 q8).bind fun q9 =>
        if q9.1 = 0 then
          some (1, q9.2)
        else
          (g_R_coded (nI G) q5.1 (nI c) q9.2).bind fun q10 =>
          some (1, q10) := by
      rw [hR, g_R_chunk_98, if_pos n0]
      simp only [l128, y_and31 hc, e28, t2, o_sb, ↓reduceIte]
    rcases s_two hS with ⟨x', y', hm5, hx2, hy2, t3, t4⟩ | ⟨D', R', t3, t4, t5⟩
    · have t4 := t4 0 (by omega)
      have t4 : g_R_length 0 R2 = some (nI (0 * 65536 + x' * 256 + y' + 1), zp_i R2 0 28 (nI (a + 1 + 2 + 2))) := t4
      obtain ⟨M, hM⟩ : ∃ M, M = x' * 256 + y' + 1 := ⟨_, rfl⟩
      rw [show 0 * 65536 + x' * 256 + y' + 1 = M by omega] at t4
      have hMC : nI (x' * 256 + y') + 1 = nI M := by rw [y_1, hM]
      obtain ⟨Q3, hQ3⟩ : ∃ Q3, Q3 = zp_i (zp_i Q2 12 3 (nI (a + 1 + 2 + 2))) 9 17 (nI M) := ⟨_, rfl⟩
      obtain ⟨R3, hR3⟩ : ∃ R3, R3 = zp_i R2 0 28 (nI (a + 1 + 2 + 2)) := ⟨_, rfl⟩
      rw [← hR3] at t4
      have h6 : g_Unp_readChunkHead D = g_Unp_readProperties Q3 := by
        rw [h5, t3, o_sb]
        show ((g_Unp_readProperties (zp_i (zp_i Q2 12 3 (nI (a + 1 + 2 + 2))) 9 17 (nI (x' * 256 + y') + 1))).bind fun q7 => some q7) = _
        rw [hMC, ← hQ3, o_bs]
      rw [t4, o_sb] at hR98
      have hSv := hS.v
      have hS3 : zS n m g b m (a + 1 + 2 + 2) Q3 R3 := by
        subst hQ3 hR3
        exact ⟨⟨hSv.hn, hSv.hm, hSv.pC, hSv.pR, hSv.pB, hSv.kC, hSv.kR, hSv.kB, hSv.sz, hSv.fa, hSv.wh, hSv.wa, hSv.lo, hSv.kr, hSv.kc, hSv.c0, hSv.cs, hSv.en, hSv.hg, hSv.gC, hSv.gR, hSv.gB, hSv.bR, hSv.bC, hSv.bS⟩, hS.f, rfl, rfl, hS.eC, by omega, hS.em⟩
      have w15 : zg_i Q3 9 15 = nI c := by rw [hQ3]; exact q15
      have w13 : zg_i Q3 9 13 = 0 := by rw [hQ3]; exact q13
      have w14 : zg_i Q3 9 14 = zg_i Q 9 14 := by rw [hQ3]; exact q14
      have w12 : zg_i Q3 9 12 = zg_i Q 9 12 := by rw [hQ3]; exact q12
      have w16 : zg_i Q3 9 16 = nI G := by rw [hQ3]; exact q16
      have w17 : zg_i Q3 9 17 = nI M := by rw [hQ3]; rfl
      have w6 : ∀ p k, p ≠ 9 → p ≠ 12 → zg_i Q3 p k = zg_i Q p k := by
        intro p k a1 a2
        rw [hQ3, y_gi, if_neg (fun t => a1 t.1), y_gi, if_neg (fun t => a2 t.1)]
        exact q6 p k a1 a2
      have w8 : ∀ p k, zg_l Q3 p k = zg_l Q p k := by
        intro p k
        rw [hQ3]
        exact q8 p k
      have wr : ∀ p k, ¬ (p = 0 ∧ k = 28) → zg_i R3 p k = zg_i R p k := by
        intro p k a1
        rw [hR3, y_gi, if_neg a1]
        exact qr p k a1
      have wl : ∀ p k, zg_l R3 p k = zg_l R p k := by
        intro p k
        rw [hR3]
        exact ql p k
      have yy3 : zY D Q3 R R3 := yy.trans ⟨fun k hk => by rw [hQ3]; rcases hk with rfl | rfl | rfl <;> rfl, fun k => by rw [hQ3]; rfl, by rw [hR3]; rfl⟩
      have l192 : (nI c < 192) = (c < 192) := propext (y_lt (b := 192) (by omega) (by omega))
      have l160 : (nI c < 160) = (c < 160) := propext (y_lt (b := 160) (by omega) (by omega))
      have f3 : ¬ ¬ zg_i R3 0 29 = 0 := fun q => q hS3.f
      by_cases c192 : c < 192
      · -- no properties
        have hRR : g_R_chunk R = (g_R_has (nI M) R3).bind fun q9 => if q9.1 = 0 then some (1, q9.2) else (g_R_coded (nI G) (nI M) (nI c) q9.2).bind fun q10 => some (1, q10) := by
          rw [hR98]
          simp only [l192, c192, f3, o_sb, ↓reduceIte]
        obtain ⟨x35, xf, x12, x23, x14, x36, xM⟩ : zg_i R 0 35 = 1 ∧ f ≤ g ∧ zg_i Q 9 12 = nI f ∧ zg_i R 0 23 = nI f ∧ zg_i Q 9 14 = 0 ∧ zg_i R 0 36 = 0 ∧ zMd g f Q R := by
          rcases hx with ⟨q1, _⟩ | ⟨_, q1, q2, q3, q4, q5⟩
          · omega
          · obtain ⟨u1, u2, u3⟩ := q5 c192
            exact ⟨q1, q2, q3, q4, u1, u2, u3⟩
        have xM3 : zMd g f Q3 R3 := xM.fr (Nat.le_refl _) (fun k => w6 6 k (by omega) (by omega)) (fun k _ _ => w6 7 k (by omega) (by omega)) (fun k => w8 8 k) (fun k _ _ => wr 0 k (by omega)) (fun k => wr 5 k (by omega)) (fun k _ _ => wl 0 k)
        by_cases c160 : c < 160
        · have h7 : g_Unp_readProperties Q3 = some Q3 := by
            rw [g_Unp_readProperties, w15, g_Unp_readProperties_87, w15]
            simp only [l192, c192, l160, c160, ↓reduceIte]
          exact s_chE (a2 := a + 1 + 2 + 2) (G := G) (M := M) (f := f) hk hi hs (h6.trans h7) hRR w15 hc1 (by omega) hS3 hc (by omega) (by omega) (by omega) (by omega) w16 w17 w13 (w14.trans x14) (w12.trans x12) xf (fun _ => (wr 0 36 (by omega)).trans x36) (fun _ => ⟨(wr 0 23 (by omega)).trans x23, (wr 0 35 (by omega)).trans x35⟩) (fun t => by omega) (fun _ => xM3) (fun t => by omega) yy3
        · obtain ⟨lc, lp, pb, st, Z, y1, y2, y3, y4⟩ := xM3
          obtain ⟨D6, b1, b2, b3, b4, b5, b6⟩ := c_anew y1.hc y1.lcC y1.lpC
          have h7 : g_Unp_readProperties Q3 = some D6 := by
            rw [g_Unp_readProperties, w15, g_Unp_readProperties_87, w15, c_snd1 hS3.c]
            simp only [l192, c192, l160, c160, z1, b1, o_sb, ↓reduceIte]
          have e9 : ∀ k, zg_i D6 9 k = zg_i Q3 9 k := fun k => b5 9 k (by omega) (by omega)
          have hS6 : zS n m g b m (a + 1 + 2 + 2) D6 R3 := ⟨zV_c hS3.v (fun p k u1 u2 => b5 p k u1 (by omega)) b6, hS3.f, (b5 12 3 (by omega) (by omega)).trans hS3.nC, hS3.nR, (b5 12 2 (by omega) (by omega)).trans hS3.eC, hS3.ae, hS3.em⟩
          exact s_chE (a2 := a + 1 + 2 + 2) (G := G) (M := M) (f := f) hk hi hs (h6.trans h7) hRR ((e9 15).trans w15) hc1 (by omega) hS6 hc (by omega) (by omega) (by omega) (by omega) ((e9 16).trans w16) ((e9 17).trans w17) ((e9 13).trans w13) ((e9 14).trans (w14.trans x14)) ((e9 12).trans (w12.trans x12)) xf (fun _ => (wr 0 36 (by omega)).trans x36) (fun _ => ⟨(wr 0 23 (by omega)).trans x23, (wr 0 35 (by omega)).trans x35⟩) (fun t => by omega) (fun t => by omega) (fun _ => ⟨lc, lp, pb, y1.hc, y1.hp, (b5 7 3 (by omega) (by omega)).trans y1.lcC, (b5 7 4 (by omega) (by omega)).trans y1.lpC, (b5 7 5 (by omega) (by omega)).trans y1.pbC, y1.lcR, y1.lpR, y1.pbR, b2, b3, b4⟩) (yy3.trans ⟨fun k hk => e9 k, fun k => b6 9 k (by omega), rfl⟩)
      · -- properties
        obtain ⟨xf, x12, x23⟩ : f ≤ g ∧ zg_i Q 9 12 = nI f ∧ ((c < 224 → zg_i R 0 23 = nI f ∧ zg_i R 0 35 = 1) ∧ (224 ≤ c → f = g)) := by
          rcases hx with ⟨q1, q2, q3⟩ | ⟨q0, q1, q2, q3, q4, q5⟩
          · subst q3
            exact ⟨Nat.le_refl _, q2, fun t => by omega, fun _ => rfl⟩
          · exact ⟨q2, q3, fun _ => ⟨q4, q1⟩, fun t => by omega⟩
        have p192 : ¬ zg_i Q3 9 15 < 192 := by
          rw [w15, l192]
          exact c192
        rcases s_has hS3 (k := 1) (by omega) with ⟨ha1, ha2, ha3⟩ | ⟨ha1, D', R', ha2, ha3, ha4⟩
        · have ha2 : g_Cur_has 1 Q3 = some (1, Q3) := ha2
          have ha3 : g_R_has 1 R3 = some (1, R3) := ha3
          have zi5 : zk_in (nI (a + 1 + 2 + 2)) 640 = true := y_in (by omega) (by omega)
          have zn5 : zn (nI (a + 1 + 2 + 2)) = a + 1 + 2 + 2 := y_zn (by omega)
          obtain ⟨kb1, kb2⟩ := hS3.v.kB (a + 1 + 2 + 2) (by omega)
          rcases s_props (zg_i R3 2 (a + 1 + 2 + 2)) with ⟨v1, v2, p, hp, hpe, hp3⟩ | ⟨v1, v2⟩
          · obtain ⟨Q4, hQ4⟩ : ∃ Q4, Q4 = zp_i (zp_i (zp_i (zp_i (zp_i Q3 12 3 (nI (a + 1 + 2 + 2 + 1))) 9 14 0) 7 3 (zo_rem (nI p) 9)) 7 4 (zo_rem (nI p / 9) 5)) 7 5 (nI p / 45) := ⟨_, rfl⟩
            obtain ⟨R8, hR8⟩ : ∃ R8, R8 = zp_i (zp_i (zp_i (zp_i R3 0 9 (zo_rem (nI p) 9)) 0 10 (zo_rem (nI p / 9) 5)) 0 11 (nI p / 45)) 0 28 (nI (a + 1 + 2 + 2 + 1)) := ⟨_, rfl⟩
            have d9 : zo_rem (nI p) 9 = nI (p % 9) := y_rem (b := 9) (by omega) (by omega)
            have d5 : zo_rem (nI p / 9) 5 = nI (p / 9 % 5) := by
              rw [show (9 : Int32) = nI 9 from rfl, y_div (by omega) (by omega)]
              exact y_rem (b := 5) (by omega) (by omega)
            have d45 : nI p / 45 = nI (p / 45) := y_div (b := 45) (by omega) (by omega)
            have c3 : zg_i Q4 7 3 = nI (p % 9) := by rw [hQ4]; exact d9
            have c4 : zg_i Q4 7 4 = nI (p / 9 % 5) := by rw [hQ4]; exact d5
            have c5 : zg_i Q4 7 5 = nI (p / 45) := by rw [hQ4]; exact d45
            have r9 : zg_i R8 0 9 = nI (p % 9) := by rw [hR8]; exact d9
            have r10 : zg_i R8 0 10 = nI (p / 9 % 5) := by rw [hR8]; exact d5
            have r11 : zg_i R8 0 11 = nI (p / 45) := by rw [hR8]; exact d45
            have hv3 := hS3.v
            have hS4 : zS n m g b m (a + 1 + 2 + 2 + 1) Q4 R8 := by
              subst hQ4 hR8
              exact ⟨⟨hv3.hn, hv3.hm, hv3.pC, hv3.pR, hv3.pB, hv3.kC, hv3.kR, hv3.kB, hv3.sz, hv3.fa, hv3.wh, hv3.wa, hv3.lo, hv3.kr, hv3.kc, hv3.c0, hv3.cs, hv3.en, hv3.hg, hv3.gC, hv3.gR, hv3.gB, hv3.bR, hv3.bC, hv3.bS⟩, hS3.f, rfl, rfl, hS3.eC, by omega, hS3.em⟩
            obtain ⟨D6, b1, b2, b3, b4, b5, b6⟩ := c_anew (lc := p % 9) (lp := p / 9 % 5) hp3 c3 c4
            have e15 : zg_i Q4 9 15 = nI c := by rw [hQ4]; exact w15
            have l160' : ¬ c < 160 := by omega
            have h7 : g_Unp_readProperties Q3 = some D6 := by
              have k5 : zg_i Q3 4 (a + 1 + 2 + 2) = nI p := kb1.trans hpe
              have v1' := v1 Q3
              rw [hpe] at v1'
              have i6 : nI (a + 1 + 2 + 2) + 1 = nI (a + 1 + 2 + 2 + 1) := y_1 _
              rw [g_Unp_readProperties, if_neg p192, ha2, o_sb]
              simp only [z1, hS3.nC, zi5, zn5, k5, v1', i6, g_Mdl_setProperties, ← hQ4, g_Unp_readProperties_87, e15, l160, l160', c_snd1 hS4.c, b1, o_sb, ↓reduceIte, not_false_eq_true]
            have hRR : g_R_chunk R = (g_R_has (nI M) R8).bind fun q9 => if q9.1 = 0 then some (1, q9.2) else (g_R_coded (nI G) (nI M) (nI c) q9.2).bind fun q10 => some (1, q10) := by
              have v2' := v2 R3
              have fr8 : ¬ ¬ zg_i R8 0 29 = 0 := fun q => q hS4.f
              have e28' : zg_i (zp_i (zp_i (zp_i R3 0 9 (zo_rem (nI p) 9)) 0 10 (zo_rem (nI p / 9) 5)) 0 11 (nI p / 45)) 0 28 + 1 = nI (a + 1 + 2 + 2 + 1) := by
                have : zg_i (zp_i (zp_i (zp_i R3 0 9 (zo_rem (nI p) 9)) 0 10 (zo_rem (nI p / 9) 5)) 0 11 (nI p / 45)) 0 28 = nI (a + 1 + 2 + 2) := hS3.nR
                rw [this, y_1]
              rw [hpe] at v2'
              rw [hR98]
              simp only [l192, c192, f3, ha3, z1, hS3.nR, zi5, zn5, hpe, g_R_properties, v2', e28', ← hR8, fr8, o_sb, ↓reduceIte, not_false_eq_true]
            have e9 : ∀ k, k ≠ 14 → zg_i D6 9 k = zg_i Q3 9 k := by
              intro k hk14
              rw [b5 9 k (by omega) (by omega), hQ4]
              simp [y_gi, hk14]
            have e14 : zg_i D6 9 14 = 0 := by
              rw [b5 9 14 (by omega) (by omega), hQ4]
              rfl
            have hS6 : zS n m g b m (a + 1 + 2 + 2 + 1) D6 R8 := ⟨zV_c hS4.v (fun p k u1 u2 => b5 p k u1 (by omega)) b6, hS4.f, (b5 12 3 (by omega) (by omega)).trans hS4.nC, hS4.nR, (b5 12 2 (by omega) (by omega)).trans hS4.eC, hS4.ae, hS4.em⟩
            have wr8 : ∀ k, 12 ≤ k → k ≠ 28 → zg_i R8 0 k = zg_i R 0 k := by
              intro k k1 k2
              rw [hR8]
              simp [y_gi, k2, show k ≠ 9 by omega, show k ≠ 10 by omega, show k ≠ 11 by omega]
              exact wr 0 k (by omega)
            exact s_chE (a2 := a + 1 + 2 + 2 + 1) (G := G) (M := M) (f := f) hk hi hs (h6.trans h7) hRR ((e9 15 (by omega)).trans w15) hc1 (by omega) hS6 hc (by omega) (by omega) (by omega) (by omega) ((e9 16 (by omega)).trans w16) ((e9 17 (by omega)).trans w17) ((e9 13 (by omega)).trans w13) e14 ((e9 12 (by omega)).trans (w12.trans x12)) xf (fun t => by omega) (fun t => ⟨(wr8 23 (by omega) (by omega)).trans (x23.1 t).1, (wr8 35 (by omega) (by omega)).trans (x23.1 t).2⟩) x23.2 (fun t => by omega) (fun _ => ⟨p % 9, p / 9 % 5, p / 45, hp3, by omega, (b5 7 3 (by omega) (by omega)).trans c3, (b5 7 4 (by omega) (by omega)).trans c4, (b5 7 5 (by omega) (by omega)).trans c5, r9, r10, r11, b2, b3, b4⟩) (yy3.trans ⟨fun k hk => e9 k (by omega), fun k => (b6 9 k (by omega)).trans (by rw [hQ4]; rfl), by rw [hR8]; rfl⟩)
          · -- not properties
            have v1' := v1 Q3
            have v2' := v2 R3
            have hfC : g_Cur_fail (-3) (nI (a + 1 + 2 + 2)) Q3 = some (zp_i (zp_i Q3 12 4 (-3)) 12 5 (nI (a + 1 + 2 + 2))) := c_fail1 _ _ hS3.c
            have hfR : g_R_fail (-3) (nI (a + 1 + 2 + 2)) R3 = some (zp_i (zp_i R3 0 30 (nI (a + 1 + 2 + 2))) 0 29 (-3)) := r_fail1 _ _ hS3.f
            have hF0 := hS3.fail (w := -3) (nI (a + 1 + 2 + 2)) (by decide)
            have h7 : g_Unp_readProperties Q3 = some (zp_i (zp_i Q3 12 4 (-3)) 12 5 (nI (a + 1 + 2 + 2))) := by
              rw [g_Unp_readProperties, if_neg p192, ha2, o_sb]
              simp only [z1, hS3.nC, zi5, zn5, kb1, v1', hfC, o_sb, ↓reduceIte, not_true_eq_false]
            obtain ⟨T1, T2, T3, T4⟩ := c_turn (x1 := x1) (k := k) (r1 := r1) (r2 := r2) hi hs.c (h6.trans h7)
            obtain ⟨y9, hy9⟩ : ∃ y9, y9 = zo_rem (zg_i R3 2 (a + 1 + 2 + 2)) 9 := ⟨_, rfl⟩
            obtain ⟨y10, hy10⟩ : ∃ y10, y10 = zo_rem (zg_i R3 2 (a + 1 + 2 + 2) / 9) 5 := ⟨_, rfl⟩
            obtain ⟨y11, hy11⟩ : ∃ y11, y11 = zg_i R3 2 (a + 1 + 2 + 2) / 45 := ⟨_, rfl⟩
            have hFv := hF0.v
            have hF1 : ∀ z, zF n m g b (zp_i (zp_i Q3 12 4 (-3)) 12 5 (nI (a + 1 + 2 + 2))) (zp_i (zp_i (zp_i (zp_i (zp_i (zp_i R3 0 30 (nI (a + 1 + 2 + 2))) 0 29 (-3)) 0 9 y9) 0 10 y10) 0 11 y11) 0 28 z) := fun z => ⟨⟨hFv.hn, hFv.hm, hFv.pC, hFv.pR, hFv.pB, hFv.kC, hFv.kR, hFv.kB, hFv.sz, hFv.fa, hFv.wh, hFv.wa, hFv.lo, hFv.kr, hFv.kc, hFv.c0, hFv.cs, hFv.en, hFv.hg, hFv.gC, hFv.gR, hFv.gB, hFv.bR, hFv.bC, hFv.bS⟩, hF0.f, hF0.nx⟩
            refine Or.inr (Or.inl ⟨g, r1, r2, _, _, 1, T2 hF0.c, ?_, hF1 (zg_i (zp_i (zp_i (zp_i (zp_i (zp_i R3 0 30 (nI (a + 1 + 2 + 2))) 0 29 (-3)) 0 9 y9) 0 10 y10) 0 11 y11) 0 28 + 1)⟩)
            have fr8 : ∀ z, ¬ zg_i (zp_i (zp_i (zp_i (zp_i (zp_i (zp_i R3 0 30 (nI (a + 1 + 2 + 2))) 0 29 (-3)) 0 9 y9) 0 10 y10) 0 11 y11) 0 28 z) 0 29 = 0 := fun z => (hF1 z).f
            rw [hR98]
            simp only [l192, c192, f3, ha3, z1, hS3.nR, zi5, zn5, g_R_properties, v2', hfR, ← hy9, ← hy10, ← hy11, fr8, o_sb, ↓reduceIte, not_false_eq_true, not_true_eq_false]
        · have ha2 : g_Cur_has 1 Q3 = some (0, D') := ha2
          have ha3 : g_R_has 1 R3 = some (0, R') := ha3
          have e87 : g_Unp_readProperties_87 D' = some D' := by
            rw [g_Unp_readProperties_87]
            by_cases t : zg_i D' 9 15 < 160
            · rw [if_pos t]
            · rw [if_neg t, c_snd0 ha4.c, o_sb, if_pos rfl]
          have h7 : g_Unp_readProperties Q3 = some D' := by
            rw [g_Unp_readProperties, if_neg p192, ha2, o_sb]
            exact (if_pos rfl).trans e87
          obtain ⟨T1, T2, T3, T4⟩ := c_turn (x1 := x1) (k := k) (r1 := r1) (r2 := r2) hi hs.c (h6.trans h7)
          refine Or.inr (Or.inl ⟨g, r1, r2, D', R', 1, T2 ha4.c, ?_, ha4⟩)
          have fr' : ¬ zg_i R' 0 29 = 0 := ha4.f
          rw [hR98]
          simp only [l192, c192, f3, ha3, fr', o_sb, ↓reduceIte, not_false_eq_true]
    · have t4 := t4 0
      have fr' : ¬ zg_i R' 0 29 = 0 := t5.f
      have hv5 := t5.v
      have f2 : ¬ zg_i (zp_i D' 9 17 (0 + 1)) 12 4 = 0 := t5.c
      have h6 : g_Unp_readChunkHead D = some (zp_i D' 9 17 (0 + 1)) := by
        rw [h5, t3, o_sb, c_prop0 f2, o_sb]
      have hF : zF n m g b (zp_i D' 9 17 (0 + 1)) R' := ⟨⟨hv5.hn, hv5.hm, hv5.pC, hv5.pR, hv5.pB, hv5.kC, hv5.kR, hv5.kB, hv5.sz, hv5.fa, hv5.wh, hv5.wa, hv5.lo, hv5.kr, hv5.kc, hv5.c0, hv5.cs, hv5.en, hv5.hg, hv5.gC, hv5.gR, hv5.gB, hv5.bR, hv5.bC, hv5.bS⟩, t5.f, t5.nx⟩
      obtain ⟨T1, T2, T3, T4⟩ := c_turn (x1 := x1) (k := k) (r1 := r1) (r2 := r2) hi hs.c h6
      refine Or.inr (Or.inl ⟨g, r1, r2, _, R', 1, T2 hF.c, ?_, hF⟩)
      rw [hR98, t4, o_sb]
      by_cases u : nI c < 192
      · simp only [u, fr', o_sb, ↓reduceIte, not_false_eq_true]
      · simp only [u, fr', o_sb, ↓reduceIte, not_false_eq_true]
  · exact s_chF hi hs (by omega) hc hQ hR t1 t2 t3
