def r_fin (q7 : zx_D) : Option zx_D :=
        ((
          if ¬ zg_i q7 0 22 = 0 then
            some q7
          else
            (g_R_shift q7).bind fun q8 =>
            some q8
        ) : Option (zx_D)).bind fun q9 =>
        if ¬ zg_i q9 0 22 = 0 then
          (g_R_fail (-6) (zg_i q9 0 28) q9).bind fun q10 =>
          some q10
        else
          if ¬ zg_l q9 0 18 = 0 then
            (g_R_fail (-6) (zg_i q9 0 28) q9).bind fun q11 =>
            some q11
          else
            if zg_i q9 0 19 = zg_i q9 0 20 then
              some (zp_i (zp_i q9 0 28 (zg_i q9 0 20)) 9 (zn 8) ((zg_i q9 9 (zn 8)) + 1))
            else
              (g_R_fail (-6) (zg_i q9 0 28) q9).bind fun q12 =>
              some q12
abbrev zU (D D' R R' : zx_D) : Prop := Nonempty ((∀ k, zg_i D' 9 k = zg_i D 9 k) ∧ (∀ k, zg_l D' 9 k = zg_l D 9 k) ∧ (∀ k, k = 23 ∨ k = 31 ∨ k = 35 ∨ k = 36 → zg_i R' 0 k = zg_i R 0 k))
theorem zU.c {D D' R R' : zx_D} (h : zU D D' R R') : ∀ k, zg_i D' 9 k = zg_i D 9 k := h.elim fun q => q.1
theorem zU.cl {D D' R R' : zx_D} (h : zU D D' R R') : ∀ k, zg_l D' 9 k = zg_l D 9 k := h.elim fun q => q.2.1
theorem zU.r {D D' R R' : zx_D} (h : zU D D' R R') : ∀ k, k = 23 ∨ k = 31 ∨ k = 35 ∨ k = 36 → zg_i R' 0 k = zg_i R 0 k := h.elim fun q => q.2.2
theorem zU.trans {D D' D'' R R' R'' : zx_D} (h1 : zU D D' R R') (h2 : zU D' D'' R' R'') : zU D D'' R R'' := ⟨fun k => (h2.c k).trans (h1.c k), fun k => (h2.cl k).trans (h1.cl k), fun k hk => (h2.r k hk).trans (h1.r k hk)⟩
theorem zW.u {D D' R R' : zx_D} (h : zW D D' R R') : zU D D' R R' := ⟨h.c, h.cl, fun k hk => h.r k (by omega) (by omega) (by omega) (by omega) (by omega)⟩
theorem zU.y {D D' R R' : zx_D} (h : zU D D' R R') : zY D D' R R' := ⟨fun k _ => h.c k, h.cl, h.r 31 (by omega)⟩
theorem zV_fail {n m g b a : Nat} {D R : zx_D} (h : zV n m g b D R) (h12 : zg_i D 12 3 = nI a) (ha : a ≤ m) {w : Int32} (p : Int32) (hw : w ≠ 0) : zF n m g b (zp_i (zp_i D 12 4 w) 12 5 p) (zp_i (zp_i R 0 30 p) 0 29 w) := ⟨⟨h.hn, h.hm, h.pC, h.pR, h.pB, h.kC, h.kR, h.kB, h.sz, rfl, rfl, h.wa, h.lo, h.kr, h.kc, h.c0, h.cs, h.en, h.hg, h.gC, h.gR, h.gB, h.bR, h.bC, h.bS⟩, hw, a, ha, h12⟩
theorem s_fin {n m b r c x e lc lp pb st a f U M : Nat} {Z : Nat → Nat} {D R : zx_D} (h : zP n m U b r c x e lc lp pb st a f U Z D R) (h17 : zg_i D 9 17 = nI M) (he : e = a + M) (hE : zg_i D 12 2 = nI m) :
    (∃ D' R', c_fin D = some (4, 5, D') ∧ r_fin R = some R' ∧ zS n m U b m (a + M) D' R' ∧ zMd U f D' R' ∧ zU D D' R R') ∨
    (∃ D' R', c_fin D = some (4, 5, D') ∧ r_fin R = some R' ∧ zF n m U b D' R') := by
  have hA := h.A
  have K := h.K
  have hT := h.T
  have ham : a ≤ m := by have := hA.em; omega
  have hov : c < r ∨ c < 2 ^ 54 ∨ 2 ^ 24 ≤ r := by
    rcases hT.2 with q | ⟨N, S0, E, s, q1, q2, q3⟩
    · exact Or.inl q
    · exact zBk_ov q1 hA.hr2 (by omega) (by omega) q2
  have bR0 : zg_i R 0 22 = 0 := hA.bR
  rcases d_shift hA hov with ⟨r1, c1, x1, D1, R1, s1, s2, h1, hr24, hlt, hsh⟩ | ⟨D1, R1, s1, s2, hX⟩
  · have q0 := zQ_shift s1 s2
    have K1 := K.q q0
    have c1b := h1.bC
    have r1b := h1.bR
    have a3 := K1.aC
    have a28 := K1.aR
    have hf : g_Cur_fail (-6) (nI a) D1 = some (zp_i (zp_i D1 12 4 (-6)) 12 5 (nI a)) := c_fail1 _ _ (h1.v.fa.trans K1.f0)
    have hfR : g_R_fail (-6) (nI a) R1 = some (zp_i (zp_i R1 0 30 (nI a)) 0 29 (-6)) := r_fail1 _ _ K1.f0
    have hFF : zF n m U b (zp_i (zp_i D1 12 4 (-6)) 12 5 (nI a)) (zp_i (zp_i R1 0 30 (nI a)) 0 29 (-6)) := zV_fail h1.v a3 ham (nI a) (by decide)
    have hc63 := h1.hc
    have z1 : ¬ (1 : Int32) = 0 := by decide
    by_cases hc0 : c1 = 0
    · have be0 : zg_i D1 5 7 = 0 := by rw [h1.be, if_pos (by omega)]
      have cC0 : zg_l D1 5 6 = 0 := by rw [h1.cC, hc0]; rfl
      have cR0 : zg_l R1 0 18 = 0 := by rw [h1.cR, hc0]; rfl
      have hxe := h1.xe
      have hem := h1.em
      have hm := h1.v.hm
      by_cases hx : x1 = e
      · left
        have e1 : zg_i D1 5 4 = zg_i D1 5 5 := by rw [h1.nC, h1.eC, hx]
        have e2 : zg_i R1 0 19 = zg_i R1 0 20 := by rw [h1.nR, h1.eR, hx]
        have eadd : zg_i D1 12 3 + zg_i D1 9 17 = nI (a + M) := by rw [a3, (q0.c 9 17 (by omega) (by omega)).trans h17, y_add]
        have e20 : zg_i R1 0 20 = nI (a + M) := by rw [h1.eR, he]
        have hV := zV_cnt h1.v (kd := 8) (by omega) (by omega)
        have z8 : zn 8 = 8 := rfl
        refine ⟨zp_i (zp_i D1 12 3 (nI (a + M))) 14 8 (zg_i D1 14 8 + 1), zp_i (zp_i R1 0 28 (nI (a + M))) 9 8 (zg_i R1 9 8 + 1), ?_, ?_, ⟨⟨hV.hn, hV.hm, hV.pC, hV.pR, hV.pB, hV.kC, hV.kR, hV.kB, hV.sz, hV.fa, hV.wh, hV.wa, hV.lo, hV.kr, hV.kc, hV.c0, hV.cs, hV.en, hV.hg, hV.gC, hV.gR, hV.gB, hV.bR, hV.bC, hV.bS⟩, K1.f0, rfl, rfl, (q0.c 12 2 (by omega) (by omega)).trans hE, by omega, Nat.le_refl _⟩, ?_, q0.w.u.trans ⟨fun k => rfl, fun k => rfl, fun k hk => ?_⟩⟩
        · simp only [c_fin, g_Src_endsWell, s1, c1b, be0, cC0, e1, z1, eadd, z8, o_sb, ↓reduceIte, not_true_eq_false, not_false_eq_true]
        · simp only [r_fin, bR0, s2, r1b, cR0, e2, e20, z8, o_sb, ↓reduceIte, not_true_eq_false]
        · refine ⟨lc, lp, pb, st, Z, ⟨h1.md.hc, h1.md.hp, h1.md.lcC, h1.md.lcR, h1.md.lpC, h1.md.lpR, h1.md.pbC, h1.md.pbR, h1.md.hs, h1.md.stC, h1.md.stR, h1.md.ch⟩, (h.S.q q0).fr (fun k => rfl) (fun k _ _ => rfl), hT.1, fun t => ?_⟩
          obtain ⟨d, d1, d2, d3⟩ := h.ds t
          exact ⟨d, d1, d2, (q0.rl 13 (by omega) (by omega) (by omega) (by omega)).trans d3⟩
        · rw [y_gi, if_neg (by omega), y_gi, if_neg (by omega)]
      · right
        have e1 : ¬ zg_i D1 5 4 = zg_i D1 5 5 := by
          rw [h1.nC, h1.eC]
          intro q
          exact hx ((y_eq (by omega) (by omega)).mp q)
        have e2 : ¬ zg_i R1 0 19 = zg_i R1 0 20 := by
          rw [h1.nR, h1.eR]
          intro q
          exact hx ((y_eq (by omega) (by omega)).mp q)
        refine ⟨_, _, ?_, ?_, hFF⟩
        · simp only [c_fin, g_Src_endsWell, s1, c1b, be0, cC0, e1, a3, hf, o_sb, ↓reduceIte, not_true_eq_false, not_false_eq_true]
        · simp only [r_fin, bR0, s2, r1b, cR0, e2, a28, hfR, o_sb, ↓reduceIte, not_true_eq_false]
    · right
      have cC0 : ¬ zg_l D1 5 6 = 0 := by
        rw [h1.cC]
        intro q
        exact hc0 ((v_eq (b := 0) (by omega) (by omega)).mp q)
      have cR0 : ¬ zg_l R1 0 18 = 0 := by
        rw [h1.cR]
        intro q
        exact hc0 ((v_eq (b := 0) (by omega) (by omega)).mp q)
      refine ⟨_, _, ?_, ?_, hFF⟩
      · by_cases t : ¬ zg_i D1 5 7 = 0
        · simp only [c_fin, g_Src_endsWell, s1, c1b, t, a3, hf, o_sb, ↓reduceIte, not_true_eq_false, not_false_eq_true]
        · simp only [c_fin, g_Src_endsWell, s1, c1b, t, cC0, a3, hf, o_sb, ↓reduceIte, not_true_eq_false, not_false_eq_true]
      · simp only [r_fin, bR0, s2, r1b, cR0, a28, hfR, o_sb, ↓reduceIte, not_true_eq_false, not_false_eq_true]
  · right
    have q0 := zQ_shift s1 s2
    have K1 := K.q q0
    have c1b := hX.bC
    have r1b := hX.bR
    have a3 := K1.aC
    have a28 := K1.aR
    have hf : g_Cur_fail (-6) (nI a) D1 = some (zp_i (zp_i D1 12 4 (-6)) 12 5 (nI a)) := c_fail1 _ _ (hX.v.fa.trans K1.f0)
    have hfR : g_R_fail (-6) (nI a) R1 = some (zp_i (zp_i R1 0 30 (nI a)) 0 29 (-6)) := r_fail1 _ _ K1.f0
    refine ⟨_, _, ?_, ?_, zV_fail (w := -6) hX.v a3 ham (nI a) (by decide)⟩
    · simp only [c_fin, g_Src_endsWell, s1, c1b, a3, hf, o_sb, ↓reduceIte, not_true_eq_false, not_false_eq_true]
    · simp only [r_fin, bR0, s2, r1b, a28, hfR, o_sb, ↓reduceIte, not_true_eq_false, not_false_eq_true]
theorem c_bst' {a i v y w k : Nat} {E : zx_D} (hi : i < 5) (hb : zg_i E 5 2 = 0) (hv : v < 2 ^ 32) (h6 : zg_l E 5 6 = nL v) (ha : a + i < 640) (hy : zg_i E 4 (a + i) = nI y) (hy2 : y < 256) (hw : w = 256 * v + y) : g_Src_begin_4_54 (nI a) (k + 1) (nI i) E = g_Src_begin_4_54 (nI a) k (nI (i + 1)) (zp_l E 5 6 (nL w)) := by
  rw [hw]
  exact c_bst hi hb hv h6 ha hy hy2
theorem s_code {n m g b a f G M : Nat} {D R : zx_D} (h : zS n m g b m a D R) (hMd : zMd g f D R) (h12 : zg_i D 9 12 = nI f) (h23 : zg_i R 0 23 = nI f) (hfg : f ≤ g) (h16 : zg_i D 9 16 = nI G) (h17 : zg_i D 9 17 = nI M) (hG1 : 1 ≤ G) (hgG : g + G ≤ 400) (hM1 : 1 ≤ M) (haM : a + M ≤ m) :
    (∃ D' R', ((g_Src_begin_4 (nI a) (nI (a + M)) D).bind fun q2 => (g_Mdl_useLine_5 q2).bind fun q3 => g_Unp_giveCoded_71 (nI (g + G)) 10000 0 q2) = some (4, 5, D') ∧ r_cod (nI G) (nI M) R = some R' ∧ zS n m (g + G) b m (a + M) D' R' ∧ zMd (g + G) f D' R' ∧ zU D D' R R') ∨
    (∃ g' D' R', ((g_Src_begin_4 (nI a) (nI (a + M)) D).bind fun q2 => (g_Mdl_useLine_5 q2).bind fun q3 => g_Unp_giveCoded_71 (nI (g + G)) 10000 0 q2) = some (4, 5, D') ∧ r_cod (nI G) (nI M) R = some R' ∧ zF n m g' b D' R') := by
  have hm := h.v.hm
  have hv := h.v
  obtain ⟨lc, lp, pb, st, Z, hM, hS, hz, hds⟩ := hMd
  have e1 : nI (a + M) - nI a = nI M := by rw [y_sub (by omega), show a + M - a = M by omega]
  have hfR : g_R_fail (-6) (nI a) R = some (zp_i (zp_i R 0 30 (nI a)) 0 29 (-6)) := r_fail1 _ _ h.f
  have zi0 : zk_in (nI a) 640 = true := y_in (by omega) (by omega)
  have zn0 : zn (nI a) = a := y_zn (by omega)
  have z1 : ¬ (1 : Int32) = 0 := by decide
  have brk : ((if nI M < 5 then some 1 else if zk_in (nI a) 640 = true then if zg_i D 4 (zn (nI a)) = 0 then some 0 else some 1 else none) : Option Int32) = some 1 → ∃ D', ((g_Src_begin_4 (nI a) (nI (a + M)) D).bind fun q2 => (g_Mdl_useLine_5 q2).bind fun q3 => g_Unp_giveCoded_71 (nI (g + G)) 10000 0 q2) = some (4, 5, D') ∧ zF n m g b D' (zp_i (zp_i R 0 30 (nI a)) 0 29 (-6)) := by
    intro hq
    obtain ⟨E, hE⟩ : ∃ E, E = zp_i (zp_i (zp_l (zp_l (zp_i (zp_i D 5 4 (nI a + 5)) 5 5 (nI (a + M))) 5 1 4294967295) 5 6 0) 5 2 1) 5 7 0 := ⟨_, rfl⟩
    have b54 : g_Src_begin_4_54 (nI a) 10000 1 (zp_i (zp_l (zp_l (zp_i (zp_i D 5 4 (nI a + 5)) 5 5 (nI (a + M))) 5 1 4294967295) 5 6 0) 5 2 1) = some (zp_i (zp_l (zp_l (zp_i (zp_i D 5 4 (nI a + 5)) 5 5 (nI (a + M))) 5 1 4294967295) 5 6 0) 5 2 1) := by
      rw [g_Src_begin_4_54, if_neg (by decide)]
      exact if_pos z1
    have hb : g_Src_begin_4 (nI a) (nI (a + M)) D = some E := by
      rw [g_Src_begin_4, e1, hq, o_sb, if_pos (Or.inr rfl), b54, o_sb, hE]
      exact if_pos (by decide : (0 : Int64) < 4294967295)
    have hS2 : zS n m g b m a E R := by
      subst hE
      exact ⟨⟨hv.hn, hv.hm, hv.pC, hv.pR, hv.pB, hv.kC, hv.kR, hv.kB, hv.sz, hv.fa, hv.wh, hv.wa, hv.lo, hv.kr, hv.kc, hv.c0, hv.cs, hv.en, hv.hg, hv.gC, hv.gR, hv.gB, hv.bR, hv.bC, hv.bS⟩, h.f, h.nC, h.nR, h.eC, h.ae, h.em⟩
    have hM2 : zM lc lp pb st Z E R := by
      subst hE
      exact ⟨hM.hc, hM.hp, hM.lcC, hM.lcR, hM.lpC, hM.lpR, hM.pbC, hM.pbR, hM.hs, hM.stC, hM.stR, hM.ch⟩
    have hD2 : zDs E R := by
      subst hE
      exact hS.fr (fun k => rfl) (fun k _ _ => rfl)
    have hb2 : ¬ zg_i E 5 2 = 0 := by
      subst hE
      exact z1
    have h12' : zg_i E 9 12 = nI f := by
      subst hE
      exact h12
    have h16' : zg_i E 9 16 = nI G := by
      subst hE
      exact h16
    obtain ⟨y, z, hyz⟩ := c_broken (k := 9999) (U := g + G) hS2 hM2 hD2 hb2 h12' hfg h16' hG1 (by omega) (by omega) hgG
    have hyz : g_Unp_giveCoded_71 (nI (g + G)) 10000 0 E = _ := hyz
    have hv2 := hS2.v
    have hS3 : zS n m g b m a (zp_i (zp_i (zp_i (zp_i E 7 7 1) 7 8 y) 7 9 1) 7 2 z) R := ⟨⟨hv2.hn, hv2.hm, hv2.pC, hv2.pR, hv2.pB, hv2.kC, hv2.kR, hv2.kB, hv2.sz, hv2.fa, hv2.wh, hv2.wa, hv2.lo, hv2.kr, hv2.kc, hv2.c0, hv2.cs, hv2.en, hv2.hg, hv2.gC, hv2.gR, hv2.gB, hv2.bR, hv2.bC, hv2.bS⟩, h.f, hS2.nC, h.nR, hS2.eC, h.ae, h.em⟩
    refine ⟨_, ?_, hS3.fail (w := -6) (nI a) (by decide)⟩
    rw [hb, o_sb, g_Mdl_useLine_5, o_sb]
    exact hyz
  by_cases hM5 : M < 5
  · right
    have l5 : nI M < 5 := (y_lt (b := 5) (by omega) (by omega)).mpr hM5
    obtain ⟨D', t1, t2⟩ := brk (by rw [if_pos l5])
    refine ⟨g, D', _, t1, ?_, t2⟩
    rw [r_cod, if_pos l5, h.nR, hfR, o_sb]
  · have l5 : ¬ nI M < 5 := fun q => hM5 ((y_lt (b := 5) (by omega) (by omega)).mp q)
    obtain ⟨k0, y0, hy0, ky0⟩ := hv.kB a (by omega)
    by_cases h0 : zg_i D 4 a = 0
    · obtain ⟨k1, y1, hy1, ky1⟩ := hv.kB (a + 1) (by omega)
      obtain ⟨k2, y2, hy2, ky2⟩ := hv.kB (a + 2) (by omega)
      obtain ⟨k3, y3, hy3, ky3⟩ := hv.kB (a + 3) (by omega)
      obtain ⟨k4, y4, hy4, ky4⟩ := hv.kB (a + 4) (by omega)
      obtain ⟨c, hc⟩ : ∃ c, c = 256 * (256 * (256 * y1 + y2) + y3) + y4 := ⟨_, rfl⟩
      have hc32 : c ≤ 4294967295 := by omega
      have hR0 : zg_i R 2 a = 0 := by rw [← k0]; exact h0
      obtain ⟨E0, hE0⟩ : ∃ E0, E0 = zp_i (zp_l (zp_l (zp_i (zp_i D 5 4 (nI a + 5)) 5 5 (nI (a + M))) 5 1 4294967295) 5 6 0) 5 2 0 := ⟨_, rfl⟩
      obtain ⟨E4, hE4⟩ : ∃ E4, E4 = zp_l (zp_l (zp_l (zp_l E0 5 6 (nL y1)) 5 6 (nL (256 * y1 + y2))) 5 6 (nL (256 * (256 * y1 + y2) + y3))) 5 6 (nL c) := ⟨_, rfl⟩
      have b54 : g_Src_begin_4_54 (nI a) 10000 1 E0 = some E4 := by
        have s1 := c_bst' (k := 9999) (a := a) (i := 1) (v := 0) (y := y1) (w := y1) (E := E0) (by omega) (by rw [hE0]; rfl) (by omega) (by rw [hE0]; rfl) (by omega) (by rw [hE0]; exact k1.trans ky1) hy1 (by omega)
        have s2 := c_bst' (k := 9998) (a := a) (i := 2) (v := y1) (y := y2) (w := 256 * y1 + y2) (E := zp_l E0 5 6 (nL y1)) (by omega) (by rw [hE0]; rfl) (by omega) rfl (by omega) (by rw [hE0]; exact k2.trans ky2) hy2 (by omega)
        have s3 := c_bst' (k := 9997) (a := a) (i := 3) (v := 256 * y1 + y2) (y := y3) (w := 256 * (256 * y1 + y2) + y3) (E := zp_l (zp_l E0 5 6 (nL y1)) 5 6 (nL (256 * y1 + y2))) (by omega) (by rw [hE0]; rfl) (by omega) rfl (by omega) (by rw [hE0]; exact k3.trans ky3) hy3 (by omega)
        have s4 := c_bst' (k := 9996) (a := a) (i := 4) (v := 256 * (256 * y1 + y2) + y3) (y := y4) (w := c) (E := zp_l (zp_l (zp_l E0 5 6 (nL y1)) 5 6 (nL (256 * y1 + y2))) 5 6 (nL (256 * (256 * y1 + y2) + y3))) (by omega) (by rw [hE0]; rfl) (by omega) rfl (by omega) (by rw [hE0]; exact k4.trans ky4) hy4 hc
        have s5 : g_Src_begin_4_54 (nI a) 9996 (nI (4 + 1)) E4 = some E4 := by
          rw [g_Src_begin_4_54, if_pos (by decide)]
        rw [hE4] at s5 ⊢
        exact s1.trans (s2.trans (s3.trans (s4.trans s5)))
      obtain ⟨E, hE⟩ : ∃ E, E = zp_i E4 5 7 (if c < 4294967295 then 0 else 1) := ⟨_, rfl⟩
      have hb : g_Src_begin_4 (nI a) (nI (a + M)) D = some E := by
        rw [g_Src_begin_4, e1, if_neg l5, if_pos zi0, zn0, if_pos h0, o_sb, if_pos (Or.inl rfl), ← hE0, b54, o_sb]
        have g6 : zg_l E4 5 6 = nL c := by rw [hE4]; rfl
        have g1 : zg_l E4 5 1 = nL 4294967295 := by rw [hE4, hE0]; rfl
        rw [g6, g1, hE]
        by_cases t : c < 4294967295
        · rw [if_pos ((v_lt (by omega) (by omega)).mpr t), if_pos t]
        · rw [if_neg (fun q => t ((v_lt (by omega) (by omega)).mp q)), if_neg t]
      obtain ⟨R0, hR⟩ : ∃ R0, R0 = zp_i (zp_i (zp_i (zp_i (zp_l (zp_l R 0 17 4294967295) 0 18 (nL c)) 0 19 (nI (a + 5))) 0 20 (nI (a + M))) 0 21 (nI G)) 0 22 0 := ⟨_, rfl⟩
      have hRc : r_cod (nI G) (nI M) R = (g_R_coded_206 10000 R0).bind fun q7 => r_fin q7 := by
        have i1 : nI a + 1 = nI (a + 1) := y_add a 1
        have i2 : nI a + 2 = nI (a + 2) := y_add a 2
        have i3 : nI a + 3 = nI (a + 3) := y_add a 3
        have i4 : nI a + 4 = nI (a + 4) := y_add a 4
        have i5 : nI a + 5 = nI (a + 5) := y_add a 5
        have j1 : zk_in (nI (a + 1)) 640 = true := y_in (by omega) (by omega)
        have j2 : zk_in (nI (a + 2)) 640 = true := y_in (by omega) (by omega)
        have j3 : zk_in (nI (a + 3)) 640 = true := y_in (by omega) (by omega)
        have j4 : zk_in (nI (a + 4)) 640 = true := y_in (by omega) (by omega)
        have l1 : zn (nI (a + 1)) = a + 1 := y_zn (by omega)
        have l2 : zn (nI (a + 2)) = a + 2 := y_zn (by omega)
        have l3 : zn (nI (a + 3)) = a + 3 := y_zn (by omega)
        have l4 : zn (nI (a + 4)) = a + 4 := y_zn (by omega)
        unfold r_cod r_fin
        rw [if_neg l5, h.nR, if_pos zi0, zn0, if_pos hR0, i1, i2, i3, i4, i5, if_pos j1, if_pos j2, if_pos j3, if_pos j4, l1, l2, l3, l4, ky1, ky2, ky3, ky4, v_code hy1 hy2 hy3 hy4, ← hc, y_add, ← hR]
      have hA : zA n m g b 4294967295 c (a + 5) (a + M) lc lp pb st Z E R0 := by
        have t5 : nI a + 5 = nI (a + 5) := y_add a 5
        subst hE hE4 hE0 hR
        exact ⟨⟨hv.hn, hv.hm, hv.pC, hv.pR, hv.pB, hv.kC, hv.kR, hv.kB, hv.sz, hv.fa, hv.wh, hv.wa, hv.lo, hv.kr, hv.kc, hv.c0, hv.cs, hv.en, hv.hg, hv.gC, hv.gR, hv.gB, hv.bR, hv.bC, hv.bS⟩, rfl, rfl, by omega, by omega, rfl, rfl, by omega, rfl, rfl, rfl, t5, rfl, rfl, rfl, by omega, haM, ⟨hM.hc, hM.hp, hM.lcC, hM.lcR, hM.lpC, hM.lpR, hM.pbC, hM.pbR, hM.hs, hM.stC, hM.stR, hM.ch⟩⟩
      have w0 : zU D E R R0 := by
        subst hE hE4 hE0 hR
        exact ⟨fun k => rfl, fun k => rfl, fun k hk => by
          rcases hk with rfl | rfl | rfl | rfl <;> rfl⟩
      have hK : zK a f g (g + G) E R0 := by
        have t21 : nI G = nI (g + G - g) := by rw [show g + G - g = G by omega]
        subst hE hE4 hE0 hR
        exact ⟨h.f, h.nC, h.nR, h12, h23, t21, hfg, by omega, hgG⟩
      have hD : zDs E R0 := by
        subst hE hE4 hE0 hR
        exact hS.fr (fun k => rfl) (fun k k1 k2 => by
          have : k = 13 ∨ k = 14 ∨ k = 15 ∨ k = 16 := by omega
          rcases this with rfl | rfl | rfl | rfl <;> rfl)
      have h13 : zg_l R0 0 13 = zg_l R 0 13 := by rw [hR]; rfl
      have hT : zT g 4294967295 c Z := by
        refine ⟨hz, ?_⟩
        by_cases t : c < 4294967295
        · exact Or.inl t
        · have : c = 4294967295 := by omega
          rw [this]
          exact Or.inr ⟨0, 0, 0, 0, zBk_0 (by omega), by omega, Or.inl ⟨rfl, rfl⟩⟩
      have hP : zP n m g b 4294967295 c (a + 5) (a + M) lc lp pb st a f (g + G) Z E R0 := ⟨hA, hK, hT, hD, fun t => by
        obtain ⟨d, d1, d2, d3⟩ := hds t
        exact ⟨d, d1, d2, h13.trans d3⟩⟩
      rw [hb, hRc, o_sb, g_Mdl_useLine_5, o_sb]
      have h12e : zg_i E 12 2 = nI m := by
        subst hE hE4 hE0
        exact h.eC
      rcases s_steps (G := G) (by omega) G 10000 10000 0 g 4294967295 c (a + 5) st Z E R0 (by omega) (by omega) (by omega) (by omega) ((w0.c 16).trans h16) hP with ⟨r2, c2, x2, st2, Z2, D3, R3, v1, v2, v3, v4⟩ | ⟨g', D3, R3, v1, v2, v3, v4, v5⟩
      · have v1 : g_Unp_giveCoded_71 (nI (g + G)) 10000 0 E = c_fin D3 := v1
        rw [v1, v2, o_sb]
        rcases s_fin v3 ((v4.c 17).trans ((w0.c 17).trans h17)) rfl ((v4.cu 2).trans h12e) with ⟨D4, R4, u1, u2, u3, u4, u5⟩ | ⟨D4, R4, u1, u2, u3⟩
        · exact Or.inl ⟨D4, R4, u1, u2, u3, u4, w0.trans (v4.u.trans u5)⟩
        · exact Or.inr ⟨g + G, D4, R4, u1, u2, u3⟩
      · right
        have v1 : g_Unp_giveCoded_71 (nI (g + G)) 10000 0 E = _ := v1
        have K3 : zg_i R3 0 28 = nI a := (v5.r 28 (by omega) (by omega) (by omega) (by omega) (by omega)).trans hK.aR
        have F3 : zg_i R3 0 29 = 0 := (v5.r 29 (by omega) (by omega) (by omega) (by omega) (by omega)).trans hK.f0
        have A3 : zg_i D3 12 3 = nI a := (v5.cu 3).trans hK.aC
        have hf3 : g_R_fail (-6) (nI a) R3 = some (zp_i (zp_i R3 0 30 (nI a)) 0 29 (-6)) := r_fail1 _ _ F3
        refine ⟨g', _, _, v1, ?_, zV_fail (w := -6) v4 A3 (by omega) (nI a) (by decide)⟩
        rw [v2, o_sb]
        simp only [r_fin, v3, K3, hf3, o_sb, ↓reduceIte, not_true_eq_false, not_false_eq_true]
    · right
      obtain ⟨D', t1, t2⟩ := brk (by rw [if_neg l5, if_pos zi0, zn0, if_neg h0])
      refine ⟨g, D', _, t1, ?_, t2⟩
      rw [r_cod, if_neg l5, h.nR, if_pos zi0, zn0, ← k0, if_neg h0, hfR, o_sb]
