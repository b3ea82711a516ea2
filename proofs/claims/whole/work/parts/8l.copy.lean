def r_pcT (x1 x2 : Int32) (q3 : zx_D) : Option zx_D :=
  (g_R_putCopy_78 x2 (x1 - 1) q3 10000 0).bind fun q4 =>
  ((
    if 4 ≤ x1 - 1 then
      some ((2 * q4) + ((zo_shr (x1 - 1) (q4 - 1)) &&& 1))
    else
      some (x1 - 1)
  ) : Option (Int32)).bind fun q5 =>
  ((
    if 5 ≤ x2 then
      some 3
    else
      some (x2 - 2)
  ) : Option (Int32)).bind fun q6 =>
  (g_R_putTree (7608 + (64 * q6)) 6 q5 q3).bind fun q7 =>
  ((
    if 4 ≤ x1 - 1 then
      some ((x1 - 1) &&& ((zo_shl 1 (q4 - 1)) - 1))
    else
      some 0
  ) : Option (Int32)).bind fun q8 =>
  ((
    if q5 ≤ 3 then
      some q7
    else
      if 14 ≤ q5 then
        some q7
      else
        (g_R_putBackwards ((7864 + (32 * q5)) - 128) (q4 - 1) q8 q7).bind fun q9 =>
        some q9
  ) : Option (zx_D)).bind fun q10 =>
  if q5 ≤ 13 then
    if 7 ≤ zg_i q10 0 12 then
      some (zp_i q10 0 12 10)
    else
      some (zp_i q10 0 12 7)
  else
    (g_R_putCopy_219 q8 10000 (q4 - 2) q10).bind fun q12 =>
    (g_R_putBackwards 8312 4 (q8 &&& 15) q12).bind fun q13 =>
    if 7 ≤ zg_i q13 0 12 then
      some (zp_i q13 0 12 10)
    else
      some (zp_i q13 0 12 7)
theorem r_pcT_of {x1 x2 : Int32} {q3 R : zx_D} (h : r_pdist x1 x2 q3 = some R) : r_pcT x1 x2 q3 = if 7 ≤ zg_i R 0 12 then some (zp_i R 0 12 10) else some (zp_i R 0 12 7) := by
  unfold r_pdist at h
  obtain ⟨q4, a4, h⟩ := zk_bind h
  obtain ⟨q5, a5, h⟩ := zk_bind h
  obtain ⟨q6, a6, h⟩ := zk_bind h
  obtain ⟨q7, a7, h⟩ := zk_bind h
  obtain ⟨q8, a8, h⟩ := zk_bind h
  obtain ⟨q10, a10, h⟩ := zk_bind h
  rw [r_pcT, a4, o_sb, a5, o_sb, a6, o_sb, a7, o_sb, a8, o_sb, a10, o_sb]
  by_cases t : q5 ≤ 13
  · rw [if_pos t] at h ⊢
    rw [Option.some.inj h]
  · rw [if_neg t] at h ⊢
    obtain ⟨q12, a12, h⟩ := zk_bind h
    rw [a12, o_sb, h, o_sb]
theorem r_putCopy_eq (x1 x2 x3 : Int32) (D : zx_D) : g_R_putCopy x1 x2 x3 D = (g_R_put ((6144 + (16 * (zg_i D 0 12))) + x3) 1 D).bind fun q1 => (g_R_put (6528 + (zg_i q1 0 12)) 0 q1).bind fun q2 => (g_R_putLength 6576 x2 x3 (zp_l (zp_l (zp_l (zp_l q2 0 16 (zg_l q2 0 15)) 0 15 (zg_l q2 0 14)) 0 14 (zg_l q2 0 13)) 0 13 ((x1).toInt64))).bind fun q3 => r_pcT x1 x2 q3 := by
  unfold g_R_putCopy
  rfl
theorem t_copy {n L lc lp pb st P Q len d : Nat} {x2 x3 : Int32} {D R : zx_D} (J : zJ n lc lp pb st D R) (h : zE2 n L lc lp pb st D R) (S : zDs D R) (hQ : Q = P % 2 ^ pb) (hP : P < 400) (hk : zg_i D 7 7 = nI 2) (hl2 : 2 ≤ len) (hl : len ≤ 273) (h79 : zg_i D 7 9 = nI len) (hd1 : 1 ≤ d) (hd : d ≤ P) (h710 : zg_l D 7 10 = nL d) : zTk n L lc lp pb P len D R (g_Mdl_step_k (nI P) x2 x3 D) (g_R_putCopy (nI d) (nI len) (nI Q) R) := by
  have hst := J.hs
  have hpb := J.hp
  have hQ16 : Q < 16 := by
    have h1 : P % 2 ^ pb < 2 ^ pb := Nat.mod_lt _ (Nat.two_pow_pos pb)
    have h2 : 2 ^ pb ≤ 2 ^ 4 := Nat.pow_le_pow_right (by omega) hpb
    omega
  have hqC : nI P &&& ((zo_shl 1 (zg_i D 7 5)) - 1) = nI Q := by rw [J.pbC, y_mask (by omega) hpb, hQ]
  obtain ⟨D1, R1, R2, a1, b1, s1, b2, s2, c1, e1⟩ := pk_2 J hQ16 hk h
  have b1 : g_R_put (nI (zf (st * 16 + Q))) 1 R = some R1 := b1
  have b2 : g_R_put (nI (zf (384 + st))) 0 R1 = some R2 := b2
  have J1 := J.h e1
  have S1 := S.h e1
  obtain ⟨R3, hR3⟩ : ∃ R3, R3 = zp_l (zp_l (zp_l (zp_l R2 0 16 (zg_l R2 0 15)) 0 15 (zg_l R2 0 14)) 0 14 (zg_l R2 0 13)) 0 13 (nL d) := ⟨_, rfl⟩
  have hE : zE2 n L lc lp pb st (zp_i D1 7 7 2) R3 := by
    subst hR3
    exact zE2_fr c1 (fun p j hp => by simp [y_gi, hp]) (fun j k1 k2 => by simp [y_gi, show j ≠ 7 by omega]) (fun p j _ h2 => rfl) (fun p j => rfl) (fun k hk => by simp [y_gl, show k ≠ 13 by omega, show k ≠ 14 by omega, show k ≠ 15 by omega, show k ≠ 16 by omega])
  have e79 : zg_i (zp_i D1 7 7 2) 7 9 = nI len := (e1.c 7 9 (by omega) (by omega) (by omega)).trans h79
  obtain ⟨D2, R4, u1, u2, u3, u4⟩ := p_len (base := 432) (base' := 6576) J.hc hQ16 (by omega) (fun i hi => zf_copy hi) hl2 hl e79 hE
  have u1 : g_Mdl_codeLength_k 432 (nI Q) (zp_i D1 7 7 2) = some (nI len, D2) := u1
  have u2 : g_R_putLength 6576 (nI len) (nI Q) R3 = some R4 := u2
  have hE2 : zE2 n L lc lp pb st (zp_i D2 7 9 (nI len)) R4 := zE2_fr u3 (fun p j hp => by simp [y_gi, hp]) (fun j k1 k2 => by simp [y_gi, show j ≠ 9 by omega]) (fun p j _ h2 => rfl) (fun p j => rfl) (fun k hk => rfl)
  have e710 : zg_l (zp_i D2 7 9 (nI len)) 7 10 = nL d := (u4.cl 7 10 (by omega)).trans ((e1.cl 7 10 (by omega)).trans h710)
  obtain ⟨D3, R5, v1, v2, v3, v4⟩ := p_dist J.hc hl2 hl (by rfl) hd1 (by omega) e710 hE2
  obtain ⟨D4, f1, f2, f3, f4, f5, f6⟩ := c_bf 3 (by omega) (nL d) (zp_l D3 7 10 (nL d))
  have f1 : g_Mdl_bringForward 3 (nL d) (zp_l D3 7 10 (nL d)) = some D4 := f1
  have hE4 : zE2 n L lc lp pb st D4 R5 := zE2_fr v3 (fun p j hp => by rw [f2]; rfl) (fun j k1 k2 => by rw [f2]; rfl) (fun p j h1 h2 => by rw [f3 p j h2]; simp [y_gl, h1]) (fun p j => rfl) (fun k hk => rfl)
  have er : ∀ k, k ≠ 17 → zg_l R5 0 k = zg_l R3 0 k := fun k hk => (v4.rl k hk).trans (u4.rl k hk)
  have e8 : ∀ k, zg_l D3 8 k = zg_l D1 8 k := fun k => (v4.cl 8 k (by omega)).trans ((u4.cl 8 k (by omega)).trans rfl)
  have S4 : zDs D4 R5 := by
    obtain ⟨⟨p0, p01, p02, p03, p04⟩, ⟨p1, p11, p12, p13, p14⟩, ⟨p2, p21, p22, p23, p24⟩, ⟨p3, p31, p32, p33, p34⟩⟩ := S1
    refine ⟨⟨d, hd1, by omega, f4, ?_⟩, ⟨p0, p01, p02, ?_, ?_⟩, ⟨p1, p11, p12, ?_, ?_⟩, ⟨p2, p21, p22, ?_, ?_⟩⟩
    · rw [er 13 (by omega), hR3]
      rfl
    · exact (f5 1 (by omega) (by omega)).trans ((e8 0).trans p03)
    · rw [er 14 (by omega), hR3]
      exact p04
    · exact (f5 2 (by omega) (by omega)).trans ((e8 1).trans p13)
    · rw [er 15 (by omega), hR3]
      exact p14
    · exact (f5 3 (by omega) (by omega)).trans ((e8 2).trans p23)
    · rw [er 16 (by omega), hR3]
      exact p24
  have r13 : zg_l R5 0 13 = nL d := by
    rw [er 13 (by omega), hR3]
    rfl
  have g2 : zg_i D4 7 2 = nI st := by
    rw [f2]
    exact (v4.c 7 2 (by omega) (by omega) (by omega)).trans ((u4.c 7 2 (by omega) (by omega) (by omega)).trans J1.stC)
  have g12 : zg_i R5 0 12 = nI st := (v4.r 12 (by omega) (by omega)).trans ((u4.r 12 (by omega) (by omega)).trans (by rw [hR3]; exact s2))
  have g9 : zg_i D4 7 9 = nI len := by
    rw [f2]
    exact (v4.c 7 9 (by omega) (by omega) (by omega)).trans rfl
  have cC : g_Mdl_step_k (nI P) x2 x3 D = if 7 ≤ zg_i D4 7 2 then some (zp_i D4 7 2 10) else some (zp_i D4 7 2 7) := by
    rw [c_stepk (kd := 2) (by omega) (by omega) hqC a1, c_tkk2, u1, o_sb]
    show ((g_Mdl_codeDistance_k (zp_i D2 7 9 (nI len))).bind fun q5 => (g_Mdl_bringForward 3 q5.1 (zp_l q5.2 7 10 q5.1)).bind fun q6 => if 7 ≤ zg_i q6 7 2 then some (zp_i q6 7 2 10) else some (zp_i q6 7 2 7)) = _
    rw [v1, o_sb]
    show ((g_Mdl_bringForward 3 (nL d) (zp_l D3 7 10 (nL d))).bind fun q6 => if 7 ≤ zg_i q6 7 2 then some (zp_i q6 7 2 10) else some (zp_i q6 7 2 7)) = _
    rw [f1, o_sb]
  have cR : g_R_putCopy (nI d) (nI len) (nI Q) R = if 7 ≤ zg_i R5 0 12 then some (zp_i R5 0 12 10) else some (zp_i R5 0 12 7) := by
    rw [r_putCopy_eq, J.stR, ixm hst hQ16, b1, o_sb, s1, ixa hst, b2, o_sb, v_of (by omega), ← hR3, u2, o_sb]
    exact r_pcT_of v2
  rw [cC, cR, g2, g12]
  have w1 : zHs D1 (zp_i D1 7 7 2) R2 R3 := by
    subst hR3
    exact ⟨fun p k _ a2 _ _ => by simp [y_gi, a2], fun _ _ _ _ _ => rfl, fun _ _ _ _ => rfl, fun _ _ _ _ _ => rfl, fun k hk => by simp [y_gl, show k ≠ 13 by omega, show k ≠ 14 by omega, show k ≠ 15 by omega, show k ≠ 16 by omega], fun k k1 k2 => by simp [y_gi, show k ≠ 7 by omega]⟩
  have w2 : zHs D2 (zp_i D2 7 9 (nI len)) R4 R4 := ⟨fun p k _ a2 _ _ => by simp [y_gi, a2], fun _ _ _ _ _ => rfl, fun _ _ _ _ => rfl, fun _ _ _ _ _ => rfl, fun _ _ => rfl, fun k k1 k2 => by simp [y_gi, show k ≠ 9 by omega]⟩
  have w3 : zHs D3 D4 R5 R5 := ⟨fun p k _ _ _ _ => by rw [f2]; rfl, fun p k a1 a2 _ => by rw [f3 p k a2]; simp [y_gl, a1], fun _ _ _ _ => rfl, fun _ _ _ _ _ => rfl, fun _ _ => rfl, fun k _ _ => by rw [f2]; rfl⟩
  have key : ∀ s', s' < 12 → zTk n L lc lp pb P len D R (some (zp_i D4 7 2 (nI s'))) (some (zp_i R5 0 12 (nI s'))) := by
    intro s' hs'
    have w4 : zHs D4 (zp_i D4 7 2 (nI s')) R5 (zp_i R5 0 12 (nI s')) := ⟨fun p k _ a2 _ _ => by simp [y_gi, a2], fun _ _ _ _ _ => rfl, fun k b1 _ _ => by simp [y_gi, b1], fun p k b1 _ _ => by simp [y_gi, b1], fun _ _ => rfl, fun k k1 k2 => by simp [y_gi, show k ≠ 2 by omega]⟩
    exact zTk.mk' rfl rfl g9 ((((((e1.s.trans w1).trans u4.s).trans w2).trans v4.s).trans w3).trans w4) (zE2_st (st := st) hs' hE4) (S4.fr (fun k => rfl) (fun k _ _ => rfl)) (fun _ => ⟨d, hd1, by omega, r13⟩)
  by_cases t : (7 : Int32) ≤ nI st
  · rw [if_pos t, if_pos t]
    exact key 10 (by omega)
  · rw [if_neg t, if_neg t]
    exact key 7 (by omega)
