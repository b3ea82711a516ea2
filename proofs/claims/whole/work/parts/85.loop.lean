theorem d_step {n m g b r c x e lc lp pb st a f U la mt : Nat} {Z : Nat → Nat} {D R : zx_D} (h : zP n m g b r c x e lc lp pb st a f U Z D R) (hg : g < U) (hl : la < 256) (hla : f = g → la = 0) (hla2 : f < g → zg_i R 3 (g - 1) = nI la) (hm : mt < 256) (hmt : ∀ d, 1 ≤ d → d ≤ g → zg_l R 0 13 = nL d → zg_i R 3 (g - d) = nI mt) : zStp n m g b e lc lp pb a f U D R (g_Mdl_step_s (nI (g - f)) (nI la) (nI mt) D) (g_R_token R) := by
  have hA := h.A
  have K := h.K
  have hU := K.U4
  have hfg := K.fg
  have hst := hA.md.hs
  have hpb := hA.md.hp
  obtain ⟨Q, hQe⟩ : ∃ Q, Q = (g - f) % 2 ^ pb := ⟨_, rfl⟩
  have hQ : Q < 16 := by
    have h1 : (g - f) % 2 ^ pb < 2 ^ pb := Nat.mod_lt _ (Nat.two_pow_pos pb)
    have h2 : 2 ^ pb ≤ 2 ^ 4 := Nat.pow_le_pow_right (by omega) hpb
    omega
  have hqC : nI (g - f) &&& ((zo_shl 1 (zg_i D 7 5)) - 1) = nI Q := by
    rw [hA.md.pbC, y_mask (by omega) hpb, hQe]
  have hqR : ((g_R_bytes R).bind fun q1 => g_R_low4 q1 R) = some (nI Q) := by
    rw [g_R_bytes, hA.v.gR, K.fR, y_sub hfg, o_sb, g_R_low4, hA.md.pbR, y_mask (by omega) hpb, hQe]
  obtain ⟨hT1, hT2⟩ := h.T
  rcases hT2 with hcr | ⟨N, S0, E, s, hB, hE, hN⟩
  · rcases d_kind hA hcr hQ hqR with ⟨kd, r', c', x', Z', D1, R1, u1, u2, u3, u4, u5, u6, u7, u8, u9, u10⟩ | ⟨kd, D1, R1, u1, u2, u3, u4, u5, u6⟩
    · rw [c_step u1 u2 hqC u3, u4]
      have K1 := K.q u6
      have S1 := h.S.q u6
      have hz : tot zKL Z' + tot zFs Z' ≤ g + 1 := by omega
      have hkd : kd = 1 ∨ kd = 2 ∨ kd = 3 ∨ (4 ≤ kd ∧ kd ≤ 7) := by omega
      rcases hkd with rfl | rfl | rfl | ⟨ha, hb⟩
      · refine (k_lit (nI Q) (nI Q) u5 u7 K1 S1 hg hz hl hla (fun t => (u6.r3 _).trans (hla2 t)) hm (fun t => ?_)).w u6.w
        obtain ⟨d, d1, d2, d3⟩ := h.ds t
        exact ⟨d, d1, d2, (u6.rl 13 (by omega) (by omega) (by omega) (by omega)).trans d3, (u6.r3 _).trans (hmt d d1 (by omega) d3)⟩
      · exact (k_copy _ _ _ hQ u5 u7 K1 S1 hg hz).w u6.w
      · exact (k_single _ _ _ _ _ u5 u7 K1 S1 hz).w u6.w
      · obtain ⟨k, hk⟩ : ∃ k, kd = 4 + k := ⟨kd - 4, by omega⟩
        subst hk
        exact (k_rep _ _ _ (by omega) hQ u5 u7 K1 S1 hz).w u6.w
    · rw [c_step u1 u2 hqC u3, u4]
      exact (k_x _ _ _ _ _ u1 u2 u5 hst ((u6.c 7 2 (by omega) (by omega)).trans hA.md.stC) hfg ((u6.r 23 (by omega) (by omega)).trans K.fR)).w u6.w
  · have h15 := zKL_15 (Z := Z) hst hQ
    rcases d_kindB hA hB (by omega) (by omega) hE hQ hqR with ⟨r', c', x', s', D1, R1, u3, u4, u5, u6, u7⟩ | ⟨kd, D1, R1, u1, u2, u3, u4, u5, u6⟩
    · rw [c_step (kd := 7) (by omega) (by omega) hqC u3, u4]
      refine (k_repB (nI Q) _ _ _ u5 u7 (by omega) (by omega) hE (K.q u6) (h.S.q u6) (fun r2 c2 s2 hB2 hu => ?_)).w u6.w
      refine ⟨by omega, Or.inr ⟨_, _, E, s2, hB2, hE, Or.inr ⟨by omega, by omega, by omega⟩⟩⟩
    · rw [c_step u1 u2 hqC u3, u4]
      exact (k_x _ _ _ _ _ u1 u2 u5 hst ((u6.c 7 2 (by omega) (by omega)).trans hA.md.stC) hfg ((u6.r 23 (by omega) (by omega)).trans K.fR)).w u6.w
def c_fin (D : zx_D) : Option (Nat × Nat × zx_D) :=
  (g_Src_endsWell D).bind fun q4 =>
      if ¬ q4.1 = 0 then
        some (4, 5, zp_i (zp_i q4.2 12 3 ((zg_i q4.2 12 3) + (zg_i q4.2 9 17))) 14 (zn 8) ((zg_i q4.2 14 (zn 8)) + 1))
      else
        (g_Cur_fail (-6) (zg_i q4.2 12 3) q4.2).bind fun q5 =>
        some (4, 5, q5)
theorem c_end {k U i : Nat} {D : zx_D} (h : ∃ g, zg_i D 10 1 = nI g ∧ U ≤ g ∧ g ≤ 400) : g_Unp_giveCoded_71 (nI U) (k + 1) (nI i) D = c_fin D := by
  obtain ⟨g, h1, h2, h3⟩ := h
  rw [g_Unp_giveCoded_71]
  by_cases t : zg_i D 9 16 ≤ nI i
  · rw [if_pos t]
    rfl
  · rw [if_neg t, h1, if_pos ((y_le (by omega) (by omega)).mpr h2)]
    rfl
theorem s_steps {n m b e lc lp pb a f U G : Nat} (hG : G < 2 ^ 30) : ∀ (j k1 k2 i g r c x st : Nat) (Z : Nat → Nat) (D R : zx_D), U - g ≤ j → j < k1 → j < k2 → i + (U - g) ≤ G → zg_i D 9 16 = nI G → zP n m g b r c x e lc lp pb st a f U Z D R →
    (∃ r' c' x' st' Z' D' R', g_Unp_giveCoded_71 (nI U) k1 (nI i) D = c_fin D' ∧ g_R_coded_206 k2 R = some R' ∧ zP n m U b r' c' x' e lc lp pb st' a f U Z' D' R' ∧ zW D D' R R') ∨
    (∃ g' D' R', g_Unp_giveCoded_71 (nI U) k1 (nI i) D = some (4, 5, zp_i (zp_i D' 12 4 (-6)) 12 5 (nI a)) ∧ g_R_coded_206 k2 R = some R' ∧ ¬ zg_i R' 0 22 = 0 ∧ zV n m g' b D' R' ∧ zW D D' R R')
  | j, k1 + 1, k2 + 1, i, g, r, c, x, st, Z, D, R, hj, h1, h2, hi, h16, h => by
    have K := h.K
    have hU := K.U4
    have hfg := K.fg
    have hgU := K.gU
    have hA := h.A
    have hv := hA.v
    by_cases hg : g < U
    · match j, hj with
      | 0, hj => exact absurd hj (by omega)
      | j + 1, hj =>
        have e1 : ¬ zg_i D 9 16 ≤ nI i := by
          rw [h16]
          intro q
          have := (y_le (by omega) (by omega)).mp q
          omega
        have e2 : ¬ nI U ≤ zg_i D 10 1 := by
          rw [hv.gC]
          intro q
          have := (y_le (by omega) (by omega)).mp q
          omega
        have e3 : (zg_i D 10 1) - (zg_i D 9 12) = nI (g - f) := by rw [hv.gC, K.fC, y_sub hfg]
        have e4 : ¬ zg_i R 0 21 ≤ 0 := by
          rw [K.lf]
          intro q
          have := (y_le (b := 0) (by omega) (by omega)).mp q
          omega
        have e5 : ¬ ¬ zg_i R 0 22 = 0 := fun q => q hA.bR
        obtain ⟨la, hla0, hla1, hla2, hlaC⟩ : ∃ la, la < 256 ∧ (f = g → la = 0) ∧ (f < g → zg_i R 3 (g - 1) = nI la) ∧ ((if nI (g - f) ≤ 0 then some 0 else (g_Row_byteBack_10 (zg_i D 10 1) 1 D).bind fun q8 => some q8) : Option Int32) = some (nI la) := by
          by_cases t : f = g
          · refine ⟨0, by omega, fun _ => rfl, fun u => by omega, ?_⟩
            rw [if_pos (show nI (g - f) ≤ 0 from (y_le (b := 0) (by omega) (by omega)).mpr (by omega))]
            rfl
          · obtain ⟨_, y, hy, hy2⟩ := hv.gB (g - 1) (by omega)
            refine ⟨y, hy, fun u => absurd u t, fun _ => hy2, ?_⟩
            have := c_bb hv (d := 1) (by omega) (by omega) (by omega)
            rw [if_neg (show ¬ nI (g - f) ≤ 0 from fun q => by have := (y_le (b := 0) (by omega) (by omega)).mp q; omega), hv.gC, show (1 : Int64) = nL 1 from rfl, this, o_sb, hy2]
        obtain ⟨d, d1, d2, d3, d4⟩ := h.S.d0
        have e6 : g_Mdl_distanceOf 0 D = some (nL d) := by
          rw [g_Mdl_distanceOf, if_pos (by decide), show zn 0 = 0 from rfl, d3]
        obtain ⟨mt, hmt0, hmt1, hmtC⟩ : ∃ mt, mt < 256 ∧ (∀ d, 1 ≤ d → d ≤ g → zg_l R 0 13 = nL d → zg_i R 3 (g - d) = nI mt) ∧ g_Row_byteBack_10 (zg_i D 10 1) (nL d) D = some (nI mt) := by
          rw [hv.gC]
          by_cases t : d ≤ g
          · obtain ⟨_, y, hy, hy2⟩ := hv.gB (g - d) (by omega)
            refine ⟨y, hy, fun d' q1 q2 q3 => ?_, by rw [c_bb hv d1 t (by omega), hy2]⟩
            have : d = d' := (v_eq (by omega) (by omega)).mp (d4.symm.trans q3)
            rw [← this]
            exact hy2
          · refine ⟨0, by omega, fun d' q1 q2 q3 => ?_, by rw [c_bb0 hv d1 d2 (by omega)]; rfl⟩
            have : d = d' := (v_eq (by omega) (by omega)).mp (d4.symm.trans q3)
            omega
        have hs := d_step h hg hla0 hla1 hla2 hmt0 hmt1
        rcases hs with ⟨len, kd, r', c', x', st', Z', D1, D2, R', t1, t2, t3, t4, t5, t6, t7, t8, t9, t10⟩ | ⟨D1, D2, R', t1, t2, t3, t4, t5, t6⟩
        · have hgl := t9.K.gU
          have z1 : zk_in (nI kd) 11 = true := y_in (by omega) (by omega)
          have z2 : zn (nI kd) = kd := y_zn (by omega)
          have z3 : ¬ (1 : Int32) = 0 := by decide
          have E1 : g_Unp_giveCoded_71 (nI U) (k1 + 1) (nI i) D = g_Unp_giveCoded_71 (nI U) k1 (nI (i + 1)) (zp_i D2 14 kd (zg_i D2 14 kd + 1)) := by
            simp only [g_Unp_giveCoded_71, e1, e2, e3, hlaC, e6, hmtC, t4, t5, t6, t7, z1, z2, z3, o_sb, y_1, ↓reduceIte, not_true_eq_false, not_false_eq_true]
          have E2 : g_R_coded_206 (k2 + 1) R = g_R_coded_206 k2 R' := by
            simp only [g_R_coded_206, e4, e5, t8, o_sb, ↓reduceIte]
          rw [E1, E2]
          rcases s_steps hG j k1 k2 (i + 1) (g + len) r' c' x' st' Z' (zp_i D2 14 kd (zg_i D2 14 kd + 1)) R' (by omega) (by omega) (by omega) (by omega) ((t10.c 16).trans h16) t9 with ⟨r2, c2, x2, st2, Z2, D3, R3, v1, v2, v3, v4⟩ | ⟨g', D3, R3, v1, v2, v3, v4, v5⟩
          · exact Or.inl ⟨r2, c2, x2, st2, Z2, D3, R3, v1, v2, v3, t10.trans v4⟩
          · exact Or.inr ⟨g', D3, R3, v1, v2, v3, v4, t10.trans v5⟩
        · right
          have E2 : g_R_coded_206 (k2 + 1) R = g_R_coded_206 k2 R' := by
            simp only [g_R_coded_206, e4, e5, t3, o_sb, ↓reduceIte]
          have E3 : g_R_coded_206 k2 R' = some R' := by
            match k2, h2 with
            | k2 + 1, _ =>
              rw [g_R_coded_206]
              by_cases q : zg_i R' 0 21 ≤ 0
              · rw [if_pos q]
              · rw [if_neg q, if_pos t4]
          have a3 : zg_i D2 12 3 = nI a := (t6.cu 3).trans K.aC
          have f3 : zg_i D2 12 4 = 0 := (t6.cu 4).trans (hv.fa.trans K.f0)
          refine ⟨g, D2, R', ?_, E2.trans E3, t4, t5, t6⟩
          have hf : g_Cur_fail (-6) (nI a) D2 = some (zp_i (zp_i D2 12 4 (-6)) 12 5 (nI a)) := c_fail1 _ _ f3
          rcases t2 with ⟨q1, q2⟩ | ⟨q1, q2⟩
          · subst q2
            simp only [g_Unp_giveCoded_71, e1, e2, e3, hlaC, e6, hmtC, t1, q1, a3, hf, o_sb, ↓reduceIte, not_true_eq_false, not_false_eq_true]
          · simp only [g_Unp_giveCoded_71, e1, e2, e3, hlaC, e6, hmtC, t1, q1, q2, a3, hf, o_sb, ↓reduceIte, not_true_eq_false, not_false_eq_true]
    · left
      have hge : g = U := by omega
      subst hge
      refine ⟨r, c, x, st, Z, D, R, c_end ⟨g, hv.gC, by omega, by omega⟩, ?_, h, zW_rfl⟩
      rw [g_R_coded_206, if_pos (show zg_i R 0 21 ≤ 0 by rw [K.lf, Nat.sub_self]; exact Int32.le_refl _)]
