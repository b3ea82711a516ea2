theorem k_copy {n m g b r c x e lc lp pb st a f U Q : Nat} {Z : Nat → Nat} {D R : zx_D} (x1 x2 x3 : Int32) (hQ : Q < 16) (h : zA n m g b r c x e lc lp pb st Z D R) (hcr : c < r) (K : zK a f g U D R) (S : zDs D R) (hg : g < U) (hz : tot zKL Z + tot zFs Z ≤ g + 1) : zStp n m g b e lc lp pb a f U D R (c_tk 2 (nI Q) x1 x2 x3 D) (r_tk 2 (nI Q) R) := by
  have hv := h.v
  have hU := K.U4
  have h' : zA n m g b r c x e lc lp pb st Z (zp_i D 7 7 2) (zp_l (zp_l (zp_l R 0 16 (zg_l R 0 15)) 0 15 (zg_l R 0 14)) 0 14 (zg_l R 0 13)) := ⟨⟨hv.hn, hv.hm, hv.pC, hv.pR, hv.pB, hv.kC, hv.kR, hv.kB, hv.sz, hv.fa, hv.wh, hv.wa, hv.lo, hv.kr, hv.kc, hv.c0, hv.cs, hv.en, hv.hg, hv.gC, hv.gR, hv.gB, hv.bR, hv.bC, hv.bS⟩, h.bC, h.bR, h.hr1, h.hr2, h.rC, h.rR, h.hc, h.cC, h.cR, h.be, h.nC, h.nR, h.eC, h.eR, h.xe, h.em, ⟨h.md.hc, h.md.hp, h.md.lcC, h.md.lcR, h.md.lpC, h.md.lpR, h.md.pbC, h.md.pbR, h.md.hs, h.md.stC, h.md.stR, h.md.ch⟩⟩
  have w1 : zW D (zp_i D 7 7 2) R (zp_l (zp_l (zp_l R 0 16 (zg_l R 0 15)) 0 15 (zg_l R 0 14)) 0 14 (zg_l R 0 13)) := ⟨fun k => rfl, fun k => rfl, fun k => rfl, fun k _ _ _ _ _ => rfl⟩
  have K1 : zK a f g U (zp_i D 7 7 2) (zp_l (zp_l (zp_l R 0 16 (zg_l R 0 15)) 0 15 (zg_l R 0 14)) 0 14 (zg_l R 0 13)) := K.w w1 K.lf (Nat.le_refl _) K.gU
  rw [r_tk2, c_tk2]
  rcases d_len (base := 432) (base' := 6576) (q := Q) hQ (by omega) (fun i hi => zf_copy hi) h' hcr with ⟨t, r1, c1, x1', Z1, D1, R1, u1, u2, u3, u4, u5, u6, u7, u8, u9⟩ | ⟨t, D1, R1, u1, u2, u3, u4, u5, u6⟩
  · have u3 : g_Mdl_codeLength_s 432 (nI Q) (zp_i D 7 7 2) = some (nI t, D1) := u3
    have u4 : g_R_lengthTaken 6576 (nI Q) (zp_l (zp_l (zp_l R 0 16 (zg_l R 0 15)) 0 15 (zg_l R 0 14)) 0 14 (zg_l R 0 13)) = some (nI t, R1) := u4
    rw [u3, u4, o_sb, o_sb]
    have z1 := u8 zKL zKL_nd (fun i hi q => by rw [zKL_mem] at q; omega)
    have z2 := u8 zFs zFs_nd (fun i hi q => by rw [zFs_mem] at q; omega)
    have u5v := u5.v
    have h2 : zA n m g b r1 c1 x1' e lc lp pb st Z1 (zp_i D1 7 9 (nI t)) R1 := ⟨⟨u5v.hn, u5v.hm, u5v.pC, u5v.pR, u5v.pB, u5v.kC, u5v.kR, u5v.kB, u5v.sz, u5v.fa, u5v.wh, u5v.wa, u5v.lo, u5v.kr, u5v.kc, u5v.c0, u5v.cs, u5v.en, u5v.hg, u5v.gC, u5v.gR, u5v.gB, u5v.bR, u5v.bC, u5v.bS⟩, u5.bC, u5.bR, u5.hr1, u5.hr2, u5.rC, u5.rR, u5.hc, u5.cC, u5.cR, u5.be, u5.nC, u5.nR, u5.eC, u5.eR, u5.xe, u5.em, ⟨u5.md.hc, u5.md.hp, u5.md.lcC, u5.md.lcR, u5.md.lpC, u5.md.lpR, u5.md.pbC, u5.md.pbR, u5.md.hs, u5.md.stC, u5.md.stR, u5.md.ch⟩⟩
    have w2 : zW D1 (zp_i D1 7 9 (nI t)) R1 R1 := ⟨fun k => rfl, fun k => rfl, fun k => rfl, fun k _ _ _ _ _ => rfl⟩
    rcases d_dist u1 u2 (by rfl) h2 u7 (by omega) with ⟨d, r2, c2, x2', Z2, D2, R2, v1, v2, v3, v4, v5, v6, v7⟩ | ⟨d, d', D2, R2, v3, v4, v5, v6⟩
    · show zStp n m g b e lc lp pb a f U D R ((g_Mdl_codeDistance_s (zp_i D1 7 9 (nI t))).bind fun q5 => (g_Mdl_bringForward 3 q5.1 (zp_l q5.2 7 10 q5.1)).bind fun q6 => if 7 ≤ zg_i q6 7 2 then some (zp_i q6 7 2 10) else some (zp_i q6 7 2 7)) ((g_R_distance (nI t) R1).bind fun q16 => if 7 ≤ zg_i q16.2 0 12 then g_R_back (nI t) 2 (zp_i (zp_l q16.2 0 13 q16.1) 0 12 10) else g_R_back (nI t) 2 (zp_i (zp_l q16.2 0 13 q16.1) 0 12 7))
      rw [v3, v4, o_sb, o_sb]
      obtain ⟨D3, b1, b2, b3, b4, b5, b6⟩ := c_bf 3 (by omega) (nL d) (zp_l D2 7 10 (nL d))
      have b1 : g_Mdl_bringForward 3 (nL d) (zp_l D2 7 10 (nL d)) = some D3 := b1
      rw [b1, o_sb]
      have hM : zM lc lp pb st Z2 D3 (zp_l R2 0 13 (nL d)) := by
        refine zM_up v5.md (fun p j hp => by rw [b2]; rfl) (fun j h3 h5 => by rw [b2]; rfl) (fun p j hp => rfl) v5.md.hs ?_ v5.md.stR
        rw [b2]
        exact v5.md.stC
      have hA := zA_md v5 (D' := D3) (R' := zp_l R2 0 13 (nL d)) (fun p j hp => by rw [b2]; rfl) (fun p j h1 h2 => by rw [b3 p j h2]; simp [y_gl, h1]) (fun p j _ => rfl) (fun k hk => by simp [y_gl, show k ≠ 13 by omega]) hM
      have w3 : zW D2 D3 R2 (zp_l R2 0 13 (nL d)) := ⟨fun k => by rw [b2]; rfl, fun k => by rw [b2]; rfl, fun k => by rw [b3 9 k (by omega)]; rfl, fun k _ _ _ _ _ => rfl⟩
      have K2 : zK a f g U D2 R2 := ((K1.q u6).w w2 (K1.q u6).lf (Nat.le_refl _) K.gU).q v6
      have K3 : zK a f g U D3 (zp_l R2 0 13 (nL d)) := K2.w w3 K2.lf (Nat.le_refl _) K.gU
      have e8 : ∀ k, zg_l D2 8 k = zg_l D 8 k := fun k => (v6.cl 8 k (by omega)).trans ((u6.cl 8 k (by omega)).trans rfl)
      have er : ∀ k, k < 17 → zg_l R2 0 k = zg_l (zp_l (zp_l (zp_l R 0 16 (zg_l R 0 15)) 0 15 (zg_l R 0 14)) 0 14 (zg_l R 0 13)) 0 k := fun k hk => (v6.rl k (by omega) (by omega) (by omega) (by omega)).trans (u6.rl k (by omega) (by omega) (by omega) (by omega))
      have S3 : zDs D3 (zp_l R2 0 13 (nL d)) := by
        obtain ⟨⟨p0, p01, p02, p03, p04⟩, ⟨p1, p11, p12, p13, p14⟩, ⟨p2, p21, p22, p23, p24⟩, ⟨p3, p31, p32, p33, p34⟩⟩ := S
        refine ⟨⟨d, v1, v2, b4, rfl⟩, ⟨p0, p01, p02, ?_, ?_⟩, ⟨p1, p11, p12, ?_, ?_⟩, ⟨p2, p21, p22, ?_, ?_⟩⟩
        · exact (b5 1 (by omega) (by omega)).trans ((e8 0).trans p03)
        · exact (er 14 (by omega)).trans p04
        · exact (b5 2 (by omega) (by omega)).trans ((e8 1).trans p13)
        · exact (er 15 (by omega)).trans p14
        · exact (b5 3 (by omega) (by omega)).trans ((e8 2).trans p23)
        · exact (er 16 (by omega)).trans p24
      have e79 : zg_i D3 7 9 = nI t := by
        rw [b2]
        exact (v6.c 7 9 (by omega) (by omega)).trans rfl
      have e77 : zg_i D3 7 7 = nI 2 := by
        rw [b2]
        exact (v6.c 7 7 (by omega) (by omega)).trans ((u6.c 7 7 (by omega) (by omega)).trans rfl)
      refine (k_end (sh := 10) (sl := 7) (len := t) (kd := 2) hA K3 S3 (by omega) (by omega) (by omega) (by omega) e79 (by omega) (by omega) e77 (fun d' hd1 hd2 hd3 hd4 hd5 => ?_)).w ((((w1.trans u6.w).trans w2).trans v6.w).trans w3)
      have hdd : d' = d := by
        have e : nL d = nL d' := hd1
        exact ((v_eq (by omega) (by omega)).mp e).symm
      subst hdd
      obtain ⟨y1, y2⟩ := v7
      rcases y2 with ⟨y3, y4⟩ | ⟨y3, N, S0, E, s, y4, y5, y6, y7, y8, y9⟩
      · exact ⟨by omega, Or.inl y3⟩
      · obtain ⟨y10, y11⟩ := y9 (by omega)
        exact ⟨by omega, Or.inr ⟨N, S0, E, s, y4, y6, Or.inr ⟨by omega, by omega, by omega⟩⟩⟩
    · show zStp n m g b e lc lp pb a f U D R ((g_Mdl_codeDistance_s (zp_i D1 7 9 (nI t))).bind fun q5 => (g_Mdl_bringForward 3 q5.1 (zp_l q5.2 7 10 q5.1)).bind fun q6 => if 7 ≤ zg_i q6 7 2 then some (zp_i q6 7 2 10) else some (zp_i q6 7 2 7)) ((g_R_distance (nI t) R1).bind fun q16 => if 7 ≤ zg_i q16.2 0 12 then g_R_back (nI t) 2 (zp_i (zp_l q16.2 0 13 q16.1) 0 12 10) else g_R_back (nI t) 2 (zp_i (zp_l q16.2 0 13 q16.1) 0 12 7))
      rw [v3, v4, o_sb, o_sb]
      exact k_copyX d d' (nI t) v5 (((w1.trans u6.w).trans w2).trans v6.w)
  · have u3 : g_Mdl_codeLength_s 432 (nI Q) (zp_i D 7 7 2) = some (nI t, D1) := u3
    have u4 : g_R_lengthTaken 6576 (nI Q) (zp_l (zp_l (zp_l R 0 16 (zg_l R 0 15)) 0 15 (zg_l R 0 14)) 0 14 (zg_l R 0 13)) = some (nI t, R1) := u4
    rw [u3, u4, o_sb, o_sb]
    have u5v := u5.v
    have h2 : zX n m g b (zp_i D1 7 9 (nI t)) R1 := ⟨⟨u5v.hn, u5v.hm, u5v.pC, u5v.pR, u5v.pB, u5v.kC, u5v.kR, u5v.kB, u5v.sz, u5v.fa, u5v.wh, u5v.wa, u5v.lo, u5v.kr, u5v.kc, u5v.c0, u5v.cs, u5v.en, u5v.hg, u5v.gC, u5v.gR, u5v.gB, u5v.bR, u5v.bC, u5v.bS⟩, u5.bC, u5.bR⟩
    obtain ⟨d, d', v3, v4⟩ := x_dist (zp_i D1 7 9 (nI t)) R1 (nI t) h2.bC h2.bR
    show zStp n m g b e lc lp pb a f U D R ((g_Mdl_codeDistance_s (zp_i D1 7 9 (nI t))).bind fun q5 => (g_Mdl_bringForward 3 q5.1 (zp_l q5.2 7 10 q5.1)).bind fun q6 => if 7 ≤ zg_i q6 7 2 then some (zp_i q6 7 2 10) else some (zp_i q6 7 2 7)) ((g_R_distance (nI t) R1).bind fun q16 => if 7 ≤ zg_i q16.2 0 12 then g_R_back (nI t) 2 (zp_i (zp_l q16.2 0 13 q16.1) 0 12 10) else g_R_back (nI t) 2 (zp_i (zp_l q16.2 0 13 q16.1) 0 12 7))
    rw [v3, v4, o_sb, o_sb]
    exact k_copyX d d' (nI t) h2 ((w1.trans u6.w).trans ⟨fun k => rfl, fun k => rfl, fun k => rfl, fun k _ _ _ _ _ => rfl⟩)
theorem k_x {n m g b e lc lp pb a f U st kd : Nat} {D R : zx_D} (q q' x1 x2 x3 : Int32) (h1 : 1 ≤ kd) (h7 : kd ≤ 7) (h : zX n m g b D R) (hst : st < 12) (hs : zg_i D 7 2 = nI st) (hfg : f ≤ g) (fR : zg_i R 0 23 = nI f) : zStp n m g b e lc lp pb a f U D R (c_tk kd q x1 x2 x3 D) (r_tk kd q' R) := by
  have hv := h.v
  have hg := hv.hg
  have hkd : kd = 1 ∨ kd = 2 ∨ kd = 3 ∨ (4 ≤ kd ∧ kd ≤ 7) := by omega
  rcases hkd with rfl | rfl | rfl | ⟨ha, hb⟩
  · have hX : zX n m g b (zp_i D 7 7 1) R := ⟨⟨hv.hn, hv.hm, hv.pC, hv.pR, hv.pB, hv.kC, hv.kR, hv.kB, hv.sz, hv.fa, hv.wh, hv.wa, hv.lo, hv.kr, hv.kc, hv.c0, hv.cs, hv.en, hv.hg, hv.gC, hv.gR, hv.gB, hv.bR, hv.bC, hv.bS⟩, h.bC, h.bR⟩
    obtain ⟨base, hbase⟩ : ∃ base, (2052 + (768 * ((zo_shl (x1 &&& ((zo_shl 1 (zg_i D 7 4)) - 1)) (zg_i D 7 3)) + (zo_ushr x2 (8 - (zg_i D 7 3))))) : Int32) = base := ⟨_, rfl⟩
    obtain ⟨al, hal⟩ : ∃ al, ((if zg_i (zp_i D 7 7 1) 7 2 < 7 then some 0 else some 1) : Option Int32) = some al := by
      by_cases t : zg_i (zp_i D 7 7 1) 7 2 < 7
      · exact ⟨0, by rw [if_pos t]⟩
      · exact ⟨1, by rw [if_neg t]⟩
    obtain ⟨la, hla1, hla2⟩ : ∃ la : Int32, (f = g → la = 0) ∧ (f < g → zg_i R 3 (g - 1) = la) := by
      by_cases t : f = g
      · exact ⟨0, fun _ => rfl, fun u => by omega⟩
      · exact ⟨_, fun u => absurd u t, fun _ => rfl⟩
    obtain ⟨bR, hbR⟩ : ∃ bR, g_R_context (nI (g - f)) la R = some bR := ⟨_, rfl⟩
    have halR : ((if zg_i R 0 12 ≤ 6 then some 0 else if ¬ zg_i R 0 22 = 0 then some 0 else some 1) : Option Int32) = some 0 := by
      by_cases t : zg_i R 0 12 ≤ 6
      · rw [if_pos t]
      · rw [if_neg t, if_pos h.bR]
    have eR := r_litE hv hfg fR hla1 hla2 hbR halR (mR := 0) (Or.inl ⟨rfl, rfl⟩)
    obtain ⟨v', y1, y2, y3, y4⟩ := x_litL (zp_i D 7 7 1) R base bR x3 0 hX.bC hX.bR 8 10000 10000 al 0 1 (by omega) (by omega) (by omega) (by decide) (by decide)
    have y3 : g_Mdl_codeLiteral_s_22 base x3 10000 al 1 7 (zp_i D 7 7 1) = some (nI v', zp_i D 7 7 1) := y3
    have y4 : g_R_literal_84 bR 0 10000 0 1 7 R = some (nI v', R) := y4
    have eC : g_Mdl_codeLiteral_s base x3 (zp_i D 7 7 1) = some (nI v' - 256, zp_i D 7 7 1) := by
      rw [g_Mdl_codeLiteral_s, hal, o_sb, y3, o_sb]
    have s2 : zg_i (zp_i D 7 7 1) 7 2 = nI st := hs
    rw [r_tk1, eR]
    unfold c_tk
    rw [if_pos rfl, hbase, eC, y4, o_sb, o_sb]
    refine zStp.x (D1 := zp_i (zp_i (zp_i (zp_i D 7 7 1) 7 8 (nI v' - 256)) 7 9 1) 7 2 (nI (zaf st))) (R1 := R) (c_after hst s2 (fun y => zp_i (zp_i (zp_i (zp_i D 7 7 1) 7 8 (nI v' - 256)) 7 9 1) 7 2 y)) (if_pos h.bR) ⟨⟨hv.hn, hv.hm, hv.pC, hv.pR, hv.pB, hv.kC, hv.kR, hv.kB, hv.sz, hv.fa, hv.wh, hv.wa, hv.lo, hv.kr, hv.kc, hv.c0, hv.cs, hv.en, hv.hg, hv.gC, hv.gR, hv.gB, hv.bR, hv.bC, hv.bS⟩, h.bC, h.bR⟩ ⟨fun k => rfl, fun k => rfl, fun k => rfl, fun k _ _ _ _ _ => rfl⟩
  · rw [r_tk2, c_tk2]
    have hX : zX n m g b (zp_i D 7 7 2) (zp_l (zp_l (zp_l R 0 16 (zg_l R 0 15)) 0 15 (zg_l R 0 14)) 0 14 (zg_l R 0 13)) := ⟨⟨hv.hn, hv.hm, hv.pC, hv.pR, hv.pB, hv.kC, hv.kR, hv.kB, hv.sz, hv.fa, hv.wh, hv.wa, hv.lo, hv.kr, hv.kc, hv.c0, hv.cs, hv.en, hv.hg, hv.gC, hv.gR, hv.gB, hv.bR, hv.bC, hv.bS⟩, h.bC, h.bR⟩
    obtain ⟨t, u1, u2, u3, u4⟩ := x_len (zp_i D 7 7 2) (zp_l (zp_l (zp_l R 0 16 (zg_l R 0 15)) 0 15 (zg_l R 0 14)) 0 14 (zg_l R 0 13)) 432 6576 q q' hX.bC hX.bR
    rw [u3, u4, o_sb, o_sb]
    have hX2 : zX n m g b (zp_i (zp_i D 7 7 2) 7 9 (nI t)) (zp_l (zp_l (zp_l R 0 16 (zg_l R 0 15)) 0 15 (zg_l R 0 14)) 0 14 (zg_l R 0 13)) := ⟨⟨hv.hn, hv.hm, hv.pC, hv.pR, hv.pB, hv.kC, hv.kR, hv.kB, hv.sz, hv.fa, hv.wh, hv.wa, hv.lo, hv.kr, hv.kc, hv.c0, hv.cs, hv.en, hv.hg, hv.gC, hv.gR, hv.gB, hv.bR, hv.bC, hv.bS⟩, h.bC, h.bR⟩
    obtain ⟨d, d', v3, v4⟩ := x_dist (zp_i (zp_i D 7 7 2) 7 9 (nI t)) (zp_l (zp_l (zp_l R 0 16 (zg_l R 0 15)) 0 15 (zg_l R 0 14)) 0 14 (zg_l R 0 13)) (nI t) hX2.bC hX2.bR
    show zStp n m g b e lc lp pb a f U D R ((g_Mdl_codeDistance_s (zp_i (zp_i D 7 7 2) 7 9 (nI t))).bind fun q5 => (g_Mdl_bringForward 3 q5.1 (zp_l q5.2 7 10 q5.1)).bind fun q6 => if 7 ≤ zg_i q6 7 2 then some (zp_i q6 7 2 10) else some (zp_i q6 7 2 7)) ((g_R_distance (nI t) (zp_l (zp_l (zp_l R 0 16 (zg_l R 0 15)) 0 15 (zg_l R 0 14)) 0 14 (zg_l R 0 13))).bind fun q16 => if 7 ≤ zg_i q16.2 0 12 then g_R_back (nI t) 2 (zp_i (zp_l q16.2 0 13 q16.1) 0 12 10) else g_R_back (nI t) 2 (zp_i (zp_l q16.2 0 13 q16.1) 0 12 7))
    rw [v3, v4, o_sb, o_sb]
    exact k_copyX d d' (nI t) hX2 ⟨fun k => rfl, fun k => rfl, fun k => rfl, fun k _ _ _ _ _ => rfl⟩
  · rw [r_tk3]
    unfold c_tk
    rw [if_neg (by decide), if_neg (by decide), if_pos rfl]
    have hX : zX n m g b (zp_i (zp_i D 7 7 3) 7 9 1) R := ⟨⟨hv.hn, hv.hm, hv.pC, hv.pR, hv.pB, hv.kC, hv.kR, hv.kB, hv.sz, hv.fa, hv.wh, hv.wa, hv.lo, hv.kr, hv.kc, hv.c0, hv.cs, hv.en, hv.hg, hv.gC, hv.gR, hv.gB, hv.bR, hv.bC, hv.bS⟩, h.bC, h.bR⟩
    exact k_endX (kd := 3) 1 11 9 11 9 hX ⟨fun k => rfl, fun k => rfl, fun k => rfl, fun k _ _ _ _ _ => rfl⟩ (by omega)
  · obtain ⟨k, hk⟩ : ∃ k, kd = 4 + k := ⟨kd - 4, by omega⟩
    subst hk
    have hk3 : k ≤ 3 := by omega
    obtain ⟨D1, b1, b2, b3, b4, b5, b6⟩ := c_bf k hk3 (zg_l D 8 k) (zp_i D 7 7 (nI (4 + k)))
    obtain ⟨R1, t1, t2, t3, t4, t5, t6⟩ := r_turn k hk3 R
    rw [r_tkr, r_rep, c_tkr, b1, t1, o_sb, o_sb]
    have hX : zX n m g b D1 R1 := zX_md h (fun p j hp => by rw [b2]; simp [y_gi, hp]) (fun p j h1 h2 => by rw [b3 p j h2]; rfl) (fun p j _ => t2 p j) t3
    obtain ⟨t, u1, u2, u3, u4⟩ := x_len D1 R1 946 7092 q q' hX.bC hX.bR
    rw [u3, u4, o_sb, o_sb]
    exact k_repX hk3 hX ⟨fun j => by rw [b2]; rfl, fun j => by rw [b2]; rfl, fun j => by rw [b3 9 j (by omega)]; rfl, fun j _ _ _ _ _ => t2 0 j⟩
