theorem k_end {n m g b r c x e lc lp pb st sh sl len a f U kd : Nat} {Z : Nat → Nat} {D R : zx_D} (h : zA n m g b r c x e lc lp pb st Z D R) (K : zK a f g U D R) (S : zDs D R) (hsh : sh < 12) (hsl : sl < 12) (hl1 : 1 ≤ len) (hl : len ≤ 273) (lC : zg_i D 7 9 = nI len) (hk1 : 2 ≤ kd) (hk : kd ≤ 7) (kC : zg_i D 7 7 = nI kd) (hT : ∀ d, zg_l R 0 13 = nL d → 1 ≤ d → d < 2 ^ 34 → d + f ≤ g → g + len ≤ U → zT (g + len) r c Z) : zStp n m g b e lc lp pb a f U D R (if 7 ≤ zg_i D 7 2 then some (zp_i D 7 2 (nI sh)) else some (zp_i D 7 2 (nI sl))) (if 7 ≤ zg_i R 0 12 then g_R_back (nI len) (nI kd) (zp_i R 0 12 (nI sh)) else g_R_back (nI len) (nI kd) (zp_i R 0 12 (nI sl))) := by
  have key : ∀ s', s' < 12 → zStp n m g b e lc lp pb a f U D R (some (zp_i D 7 2 (nI s'))) (g_R_back (nI len) (nI kd) (zp_i R 0 12 (nI s'))) := by
    intro s' hs'
    have hM : zM lc lp pb s' Z (zp_i D 7 2 (nI s')) (zp_i R 0 12 (nI s')) := by
      refine zM_up h.md (fun p k hp => ?_) (fun k h3 h5 => ?_) (fun p k hp => ?_) hs' rfl rfl
      · simp [y_gi, hp]
      · simp [y_gi, show k ≠ 2 by omega]
      · simp [y_gi, hp]
    have hA := zA_md (st' := s') h (D' := zp_i D 7 2 (nI s')) (R' := zp_i R 0 12 (nI s')) (fun p k hp => by simp [y_gi, hp]) (fun p k h1 h2 => rfl) (fun p k hp => by simp [y_gi, hp]) (fun k hk => rfl) hM
    have w : zW D (zp_i D 7 2 (nI s')) R (zp_i R 0 12 (nI s')) := ⟨fun k => rfl, fun k => rfl, fun k => rfl, fun k a1 a2 a3 a4 a5 => by simp [y_gi, a2]⟩
    obtain ⟨d, d1, d2, d3, d4⟩ := S.d0
    exact (k_back hA (K.w w K.lf (Nat.le_refl _) K.gU) (S.fr (fun k => rfl) (fun k _ _ => rfl)) d1 d2 d3 d4 hl1 hl lC hk1 hk kC (fun h1 h2 => hT d d4 d1 d2 h1 h2)).w w
  rw [h.md.stC, h.md.stR]
  by_cases t : (7 : Int32) ≤ nI st
  · rw [if_pos t, if_pos t]
    exact key sh hsh
  · rw [if_neg t, if_neg t]
    exact key sl hsl
theorem r_backX (len : Int32) {kd : Nat} (hk : kd ≤ 7) {R : zx_D} (h : ¬ zg_i R 0 22 = 0) : g_R_back len (nI kd) R = some (zp_i R 0 22 1) := by
  have z1 : zk_in (nI kd) 11 = true := y_in (by omega) (by omega)
  have z2 : zn (nI kd) = kd := y_zn (by omega)
  have z4 : ¬ (1 : Int32) = 0 := by decide
  have bad : ∀ R1 : zx_D, R1 = zp_i R 0 22 1 → g_R_back_39 len (nI kd) 10000 0 R1 = some R1 := by
    intro R1 hR1
    rw [g_R_back_39]
    by_cases q : len ≤ 0
    · rw [if_pos q]
    · rw [if_neg q, if_pos (by rw [hR1]; exact z4)]
  have bad2 : zg_i (zp_i R 0 22 1) 0 22 = 1 := rfl
  simp only [g_R_back, h, bad _ rfl, bad2, z4, z1, z2, o_sb, y_same, ↓reduceIte, not_true_eq_false, not_false_eq_true, or_true]
theorem k_endX {n m g b e lc lp pb a f U kd : Nat} {D R D0 R0 : zx_D} (len x1 x2 y1 y2 : Int32) (h : zX n m g b D R) (w : zW D0 D R0 R) (hk : kd ≤ 7) : zStp n m g b e lc lp pb a f U D0 R0 (if 7 ≤ zg_i D 7 2 then some (zp_i D 7 2 x1) else some (zp_i D 7 2 x2)) (if 7 ≤ zg_i R 0 12 then g_R_back len (nI kd) (zp_i R 0 12 y1) else g_R_back len (nI kd) (zp_i R 0 12 y2)) := by
  have key : ∀ x y : Int32, zStp n m g b e lc lp pb a f U D0 R0 (some (zp_i D 7 2 x)) (g_R_back len (nI kd) (zp_i R 0 12 y)) := by
    intro x y
    have hX := zX_md h (D' := zp_i D 7 2 x) (R' := zp_i R 0 12 y) (fun p k hp => by simp [y_gi, hp]) (fun p k h1 h2 => rfl) (fun p k hp => by simp [y_gi, hp]) (fun k hk => rfl)
    have hv := hX.v
    have hX2 : zX n m g b (zp_i D 7 2 x) (zp_i (zp_i R 0 12 y) 0 22 1) := ⟨⟨hv.hn, hv.hm, hv.pC, hv.pR, hv.pB, hv.kC, hv.kR, hv.kB, hv.sz, hv.fa, hv.wh, hv.wa, hv.lo, hv.kr, hv.kc, hv.c0, hv.cs, hv.en, hv.hg, hv.gC, hv.gR, hv.gB, hv.bR, hv.bC, hv.bS⟩, hX.bC, (by decide : ¬ (1 : Int32) = 0)⟩
    exact zStp.x rfl (r_backX len hk hX.bR) hX2 (w.trans ⟨fun k => rfl, fun k => rfl, fun k => rfl, fun k a1 a2 a3 a4 a5 => by simp [y_gi, a2, a5]⟩)
  by_cases t : (7 : Int32) ≤ zg_i D 7 2
  · rw [if_pos t]
    by_cases u : (7 : Int32) ≤ zg_i R 0 12
    · rw [if_pos u]
      exact key _ _
    · rw [if_neg u]
      exact key _ _
  · rw [if_neg t]
    by_cases u : (7 : Int32) ≤ zg_i R 0 12
    · rw [if_pos u]
      exact key _ _
    · rw [if_neg u]
      exact key _ _
theorem k_single {n m g b r c x e lc lp pb st a f U : Nat} {Z : Nat → Nat} {D R : zx_D} (q q' x1 x2 x3 : Int32) (h : zA n m g b r c x e lc lp pb st Z D R) (hcr : c < r) (K : zK a f g U D R) (S : zDs D R) (hz : tot zKL Z + tot zFs Z ≤ g + 1) : zStp n m g b e lc lp pb a f U D R (c_tk 3 q x1 x2 x3 D) (r_tk 3 q' R) := by
  have hv := h.v
  have h' : zA n m g b r c x e lc lp pb st Z (zp_i (zp_i D 7 7 3) 7 9 1) R := ⟨⟨hv.hn, hv.hm, hv.pC, hv.pR, hv.pB, hv.kC, hv.kR, hv.kB, hv.sz, hv.fa, hv.wh, hv.wa, hv.lo, hv.kr, hv.kc, hv.c0, hv.cs, hv.en, hv.hg, hv.gC, hv.gR, hv.gB, hv.bR, hv.bC, hv.bS⟩, h.bC, h.bR, h.hr1, h.hr2, h.rC, h.rR, h.hc, h.cC, h.cR, h.be, h.nC, h.nR, h.eC, h.eR, h.xe, h.em, ⟨h.md.hc, h.md.hp, h.md.lcC, h.md.lcR, h.md.lpC, h.md.lpR, h.md.pbC, h.md.pbR, h.md.hs, h.md.stC, h.md.stR, h.md.ch⟩⟩
  have w1 : zW D (zp_i (zp_i D 7 7 3) 7 9 1) R R := ⟨fun k => rfl, fun k => rfl, fun k => rfl, fun k _ _ _ _ _ => rfl⟩
  have key := k_end (sh := 11) (sl := 9) (len := 1) (kd := 3) h' (K.w w1 K.lf (Nat.le_refl _) K.gU) (S.fr (fun k => rfl) (fun k _ _ => rfl)) (by omega) (by omega) (by omega) (by omega) rfl (by omega) (by omega) rfl (fun d _ _ _ _ _ => ⟨by omega, Or.inl hcr⟩)
  have key2 := key.w w1
  rw [r_tk3]
  unfold c_tk
  rw [if_neg (by decide), if_neg (by decide), if_pos rfl]
  exact key2
theorem k_front {n m g b r c x e lc lp pb st a f U k : Nat} {Z : Nat → Nat} {D R : zx_D} (hk : k ≤ 3) (h : zA n m g b r c x e lc lp pb st Z D R) (K : zK a f g U D R) (S : zDs D R) : ∃ D1 R1, g_Mdl_bringForward (nI k) (zg_l D 8 k) (zp_i D 7 7 (nI (4 + k))) = some D1 ∧ g_R_turn (nI k) R = some R1 ∧ zA n m g b r c x e lc lp pb st Z D1 R1 ∧ zK a f g U D1 R1 ∧ zDs D1 R1 ∧ zW D D1 R R1 ∧ zg_i D1 7 7 = nI (4 + k) := by
  obtain ⟨D1, b1, b2, b3, b4, b5, b6⟩ := c_bf k hk (zg_l D 8 k) (zp_i D 7 7 (nI (4 + k)))
  obtain ⟨R1, t1, t2, t3, t4, t5, t6⟩ := r_turn k hk R
  have hM : zM lc lp pb st Z D1 R1 := by
    refine zM_up h.md (fun p j hp => ?_) (fun j h3 h5 => ?_) (fun p j hp => t2 p j) h.md.hs ?_ ?_
    · rw [b2]
      simp [y_gi, hp]
    · rw [b2]
      simp [y_gi, show j ≠ 7 by omega]
    · rw [b2]
      exact h.md.stC
    · rw [t2]
      exact h.md.stR
  have hA := zA_md h (D' := D1) (R' := R1) (fun p j hp => by rw [b2]; simp [y_gi, hp]) (fun p j h1 h2 => by rw [b3 p j h2]; rfl) (fun p j _ => t2 p j) t3 hM
  have w : zW D D1 R R1 := ⟨fun j => by rw [b2]; rfl, fun j => by rw [b2]; rfl, fun j => by rw [b3 9 j (by omega)]; rfl, fun j _ _ _ _ _ => t2 0 j⟩
  refine ⟨D1, R1, b1, t1, hA, K.w w (by rw [t2]; exact K.lf) (Nat.le_refl _) K.gU, ?_, w, by rw [b2]; rfl⟩
  have hk' : k = 0 ∨ k = 1 ∨ k = 2 ∨ k = 3 := by omega
  have e8 : ∀ j, zg_l (zp_i D 7 7 (nI (4 + k))) 8 j = zg_l D 8 j := fun j => rfl
  obtain ⟨⟨p0, p01, p02, p03, p04⟩, ⟨p1, p11, p12, p13, p14⟩, ⟨p2, p21, p22, p23, p24⟩, ⟨p3, p31, p32, p33, p34⟩⟩ := S
  rcases hk' with rfl | rfl | rfl | rfl
  · exact ⟨⟨p0, p01, p02, b4.trans p03, t4.trans p04⟩, ⟨p1, p11, p12, (b6 1 (by omega) (by omega)).trans p13, (t6 1 (by omega) (by omega)).trans p14⟩, ⟨p2, p21, p22, (b6 2 (by omega) (by omega)).trans p23, (t6 2 (by omega) (by omega)).trans p24⟩, ⟨p3, p31, p32, (b6 3 (by omega) (by omega)).trans p33, (t6 3 (by omega) (by omega)).trans p34⟩⟩
  · exact ⟨⟨p1, p11, p12, b4.trans p13, t4.trans p14⟩, ⟨p0, p01, p02, (b5 1 (by omega) (by omega)).trans p03, (t5 1 (by omega) (by omega)).trans p04⟩, ⟨p2, p21, p22, (b6 2 (by omega) (by omega)).trans p23, (t6 2 (by omega) (by omega)).trans p24⟩, ⟨p3, p31, p32, (b6 3 (by omega) (by omega)).trans p33, (t6 3 (by omega) (by omega)).trans p34⟩⟩
  · exact ⟨⟨p2, p21, p22, b4.trans p23, t4.trans p24⟩, ⟨p0, p01, p02, (b5 1 (by omega) (by omega)).trans p03, (t5 1 (by omega) (by omega)).trans p04⟩, ⟨p1, p11, p12, (b5 2 (by omega) (by omega)).trans p13, (t5 2 (by omega) (by omega)).trans p14⟩, ⟨p3, p31, p32, (b6 3 (by omega) (by omega)).trans p33, (t6 3 (by omega) (by omega)).trans p34⟩⟩
  · exact ⟨⟨p3, p31, p32, b4.trans p33, t4.trans p34⟩, ⟨p0, p01, p02, (b5 1 (by omega) (by omega)).trans p03, (t5 1 (by omega) (by omega)).trans p04⟩, ⟨p1, p11, p12, (b5 2 (by omega) (by omega)).trans p13, (t5 2 (by omega) (by omega)).trans p14⟩, ⟨p2, p21, p22, (b5 3 (by omega) (by omega)).trans p23, (t5 3 (by omega) (by omega)).trans p24⟩⟩
theorem c_tkr (k : Nat) (q x1 x2 x3 : Int32) (D : zx_D) : c_tk (4 + k) q x1 x2 x3 D = (g_Mdl_bringForward (nI k) (zg_l D 8 k) (zp_i D 7 7 (nI (4 + k)))).bind fun q2 =>
        (g_Mdl_codeLength_s 946 q q2).bind fun q3 =>
        if 7 ≤ zg_i q3.2 7 2 then
          some (zp_i (zp_i q3.2 7 9 q3.1) 7 2 11)
        else
          some (zp_i (zp_i q3.2 7 9 q3.1) 7 2 8) := by
  unfold c_tk
  rw [if_neg (by omega), if_neg (by omega), if_neg (by omega), show 4 + k - 4 = k by omega]
theorem r_rep (k : Nat) (q : Int32) (R : zx_D) : g_R_repeated (nI k) q R = (g_R_turn (nI k) R).bind fun q1 => (g_R_lengthTaken 7092 q q1).bind fun q2 => if 7 ≤ zg_i q2.2 0 12 then g_R_back q2.1 (nI (4 + k)) (zp_i q2.2 0 12 11) else g_R_back q2.1 (nI (4 + k)) (zp_i q2.2 0 12 8) := by
  rw [g_R_repeated]
  have e : (4 : Int32) + nI k = nI (4 + k) := y_add 4 k
  simp only [o_bs, e]
theorem k_repE {n m g b r c x e lc lp pb st a f U k t : Nat} {Z : Nat → Nat} {D R : zx_D} (hk : k ≤ 3) (h : zA n m g b r c x e lc lp pb st Z D R) (K : zK a f g U D R) (S : zDs D R) (ht1 : 2 ≤ t) (ht : t ≤ 273) (kC : zg_i D 7 7 = nI (4 + k)) (hT : ∀ d, zg_l R 0 13 = nL d → 1 ≤ d → d < 2 ^ 34 → d + f ≤ g → g + t ≤ U → zT (g + t) r c Z) : zStp n m g b e lc lp pb a f U D R (if 7 ≤ zg_i D 7 2 then some (zp_i (zp_i D 7 9 (nI t)) 7 2 11) else some (zp_i (zp_i D 7 9 (nI t)) 7 2 8)) (if 7 ≤ zg_i R 0 12 then g_R_back (nI t) (nI (4 + k)) (zp_i R 0 12 11) else g_R_back (nI t) (nI (4 + k)) (zp_i R 0 12 8)) := by
  have hv := h.v
  have h' : zA n m g b r c x e lc lp pb st Z (zp_i D 7 9 (nI t)) R := ⟨⟨hv.hn, hv.hm, hv.pC, hv.pR, hv.pB, hv.kC, hv.kR, hv.kB, hv.sz, hv.fa, hv.wh, hv.wa, hv.lo, hv.kr, hv.kc, hv.c0, hv.cs, hv.en, hv.hg, hv.gC, hv.gR, hv.gB, hv.bR, hv.bC, hv.bS⟩, h.bC, h.bR, h.hr1, h.hr2, h.rC, h.rR, h.hc, h.cC, h.cR, h.be, h.nC, h.nR, h.eC, h.eR, h.xe, h.em, ⟨h.md.hc, h.md.hp, h.md.lcC, h.md.lcR, h.md.lpC, h.md.lpR, h.md.pbC, h.md.pbR, h.md.hs, h.md.stC, h.md.stR, h.md.ch⟩⟩
  have w1 : zW D (zp_i D 7 9 (nI t)) R R := ⟨fun k => rfl, fun k => rfl, fun k => rfl, fun k _ _ _ _ _ => rfl⟩
  exact (k_end (sh := 11) (sl := 8) (len := t) (kd := 4 + k) h' (K.w w1 K.lf (Nat.le_refl _) K.gU) (S.fr (fun k => rfl) (fun k _ _ => rfl)) (by omega) (by omega) (by omega) (by omega) rfl (by omega) (by omega) kC hT).w w1
theorem k_repX {n m g b e lc lp pb a f U k t : Nat} {D R D0 R0 : zx_D} (hk : k ≤ 3) (h : zX n m g b D R) (w : zW D0 D R0 R) : zStp n m g b e lc lp pb a f U D0 R0 (if 7 ≤ zg_i D 7 2 then some (zp_i (zp_i D 7 9 (nI t)) 7 2 11) else some (zp_i (zp_i D 7 9 (nI t)) 7 2 8)) (if 7 ≤ zg_i R 0 12 then g_R_back (nI t) (nI (4 + k)) (zp_i R 0 12 11) else g_R_back (nI t) (nI (4 + k)) (zp_i R 0 12 8)) := by
  have hv := h.v
  have h' : zX n m g b (zp_i D 7 9 (nI t)) R := ⟨⟨hv.hn, hv.hm, hv.pC, hv.pR, hv.pB, hv.kC, hv.kR, hv.kB, hv.sz, hv.fa, hv.wh, hv.wa, hv.lo, hv.kr, hv.kc, hv.c0, hv.cs, hv.en, hv.hg, hv.gC, hv.gR, hv.gB, hv.bR, hv.bC, hv.bS⟩, h.bC, h.bR⟩
  exact k_endX (nI t) 11 8 11 8 h' (w.trans ⟨fun k => rfl, fun k => rfl, fun k => rfl, fun k _ _ _ _ _ => rfl⟩) (by omega)
theorem k_rep {n m g b r c x e lc lp pb st a f U k Q : Nat} {Z : Nat → Nat} {D R : zx_D} (x1 x2 x3 : Int32) (hk : k ≤ 3) (hQ : Q < 16) (h : zA n m g b r c x e lc lp pb st Z D R) (hcr : c < r) (K : zK a f g U D R) (S : zDs D R) (hz : tot zKL Z + tot zFs Z ≤ g + 1) : zStp n m g b e lc lp pb a f U D R (c_tk (4 + k) (nI Q) x1 x2 x3 D) (r_tk (4 + k) (nI Q) R) := by
  obtain ⟨D1, R1, e1, e2, h1, K1, S1, w1, k1⟩ := k_front hk h K S
  rw [r_tkr, r_rep, c_tkr, e1, e2, o_sb, o_sb]
  rcases d_len (base := 946) (base' := 7092) (q := Q) hQ (by omega) (fun i hi => zf_rep hi) h1 hcr with ⟨t, r', c', x', Z', D2, R2, u1, u2, u3, u4, u5, u6, u7, u8, u9⟩ | ⟨t, D2, R2, u1, u2, u3, u4, u5, u6⟩
  · have u3 : g_Mdl_codeLength_s 946 (nI Q) D1 = some (nI t, D2) := u3
    have u4 : g_R_lengthTaken 7092 (nI Q) R1 = some (nI t, R2) := u4
    rw [u3, u4, o_sb, o_sb]
    have z1 := u9 rfl
    have z2 := u8 zFs zFs_nd (fun i hi q => by rw [zFs_mem] at q; omega)
    exact (k_repE hk u5 (K1.q u6) (S1.q u6) u1 u2 ((u6.c 7 7 (by omega) (by omega)).trans k1) (fun d _ _ _ _ _ => ⟨by omega, Or.inl u7⟩)).w (w1.trans u6.w)
  · have u3 : g_Mdl_codeLength_s 946 (nI Q) D1 = some (nI t, D2) := u3
    have u4 : g_R_lengthTaken 7092 (nI Q) R1 = some (nI t, R2) := u4
    rw [u3, u4, o_sb, o_sb]
    exact k_repX hk u5 (w1.trans u6.w)
theorem k_repB {n m g b r c x e lc lp pb st a f U N S0 E s : Nat} {Z : Nat → Nat} {D R : zx_D} (q x1 x2 x3 : Int32) (h : zA n m g b r c x e lc lp pb st Z D R) (hB : zBk N S0 E s r c) (hN : N + 10 ≤ 31) (hS : S0 + zL10 Z ≤ 527) (hE : E ≤ 26) (K : zK a f g U D R) (S : zDs D R) (hT : ∀ r' c' s', zBk (N + 10) (S0 + zL10 Z) E s' r' c' → g + 273 ≤ U → zT (g + 273) r' c' Z) : zStp n m g b e lc lp pb a f U D R (c_tk 7 q x1 x2 x3 D) (r_tk 7 q R) := by
  obtain ⟨D1, R1, e1, e2, h1, K1, S1, w1, k1⟩ := k_front (k := 3) (by omega) h K S
  rw [show 7 = 4 + 3 from rfl, r_tkr, r_rep, c_tkr, e1, e2, o_sb, o_sb]
  rcases d_lenB q q h1 hB hN hS hE with ⟨r', c', x', s', D2, R2, u3, u4, u5, u6, u7⟩ | ⟨t, D2, R2, u1, u2, u3, u4, u5, u6⟩
  · rw [u3, u4, o_sb, o_sb]
    exact (k_repE (k := 3) (by omega) u5 (K1.q u6) (S1.q u6) (by omega) (by omega) ((u6.c 7 7 (by omega) (by omega)).trans k1) (fun d _ _ _ _ hu => hT r' c' s' u7 hu)).w (w1.trans u6.w)
  · rw [u3, u4, o_sb, o_sb]
    exact k_repX (k := 3) (by omega) u5 (w1.trans u6.w)
theorem c_tk2 (q x1 x2 x3 : Int32) (D : zx_D) : c_tk 2 q x1 x2 x3 D = (g_Mdl_codeLength_s 432 q (zp_i D 7 7 2)).bind fun q4 =>
      (g_Mdl_codeDistance_s (zp_i q4.2 7 9 q4.1)).bind fun q5 =>
      (g_Mdl_bringForward 3 q5.1 (zp_l q5.2 7 10 q5.1)).bind fun q6 =>
      if 7 ≤ zg_i q6 7 2 then
        some (zp_i q6 7 2 10)
      else
        some (zp_i q6 7 2 7) := by
  unfold c_tk
  rw [if_neg (by decide), if_pos rfl]
theorem k_copyX {n m g b e lc lp pb a f U : Nat} {D R D0 R0 : zx_D} (dC dR : Int64) (len : Int32) (h : zX n m g b D R) (w : zW D0 D R0 R) : zStp n m g b e lc lp pb a f U D0 R0 ((g_Mdl_bringForward 3 dC (zp_l D 7 10 dC)).bind fun q6 => if 7 ≤ zg_i q6 7 2 then some (zp_i q6 7 2 10) else some (zp_i q6 7 2 7)) (if 7 ≤ zg_i R 0 12 then g_R_back len 2 (zp_i (zp_l R 0 13 dR) 0 12 10) else g_R_back len 2 (zp_i (zp_l R 0 13 dR) 0 12 7)) := by
  obtain ⟨D1, b1, b2, b3, b4, b5, b6⟩ := c_bf 3 (by omega) dC (zp_l D 7 10 dC)
  have b1 : g_Mdl_bringForward 3 dC (zp_l D 7 10 dC) = some D1 := b1
  rw [b1, o_sb]
  have hX : zX n m g b D1 (zp_l R 0 13 dR) := zX_md h (fun p k hp => by rw [b2]; rfl) (fun p k h1 h2 => by rw [b3 p k h2]; simp [y_gl, h1]) (fun p k hp => rfl) (fun k hk => by simp [y_gl, show k ≠ 13 by omega])
  exact k_endX (kd := 2) len 10 7 10 7 hX (w.trans ⟨fun k => by rw [b2]; rfl, fun k => by rw [b2]; rfl, fun k => by rw [b3 9 k (by omega)]; rfl, fun k _ _ _ _ _ => rfl⟩) (by omega)
