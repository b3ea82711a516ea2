theorem c_app10' {g : Nat} {D : zx_D} (h : zg_i D 10 1 = nI g) (hg : g < 400) (y : Int32) : g_Row_append_10 y D = some (zpC D g y) := by
  rw [g_Row_append_10, h, if_pos (show nI g < 400 from (y_lt (b := 400) (by omega) (by omega)).mpr hg), if_pos (y_in hg (by omega)), y_zn (by omega), y_1]
  rfl
theorem r_litE {n m g b f : Nat} {D R : zx_D} (h : zV n m g b D R) (hfg : f ≤ g) (fR : zg_i R 0 23 = nI f) {la : Int32} (hla : f = g → la = 0) (hla2 : f < g → zg_i R 3 (g - 1) = la) {base al mR : Int32} (hb : g_R_context (nI (g - f)) la R = some base)
    (hal : ((if zg_i R 0 12 ≤ 6 then some 0 else if ¬ zg_i R 0 22 = 0 then some 0 else some 1) : Option Int32) = some al) (hm : al = 0 ∧ mR = 0 ∨ ¬ al = 0 ∧ ∃ d, 1 ≤ d ∧ d ≤ g ∧ zg_l R 0 13 = nL d ∧ zg_i R 3 (g - d) = mR) :
    g_R_literal R = (g_R_literal_84 base mR 10000 al 1 7 R).bind fun q8 => if ¬ zg_i q8.2 0 22 = 0 then some q8.2 else (g_R_give (q8.1 &&& 255) q8.2).bind fun q9 => (g_R_after (zg_i q9 0 12) q9).bind fun q10 => some (zp_i (zp_i q9 0 12 q10) 9 (zn 1) ((zg_i q9 9 (zn 1)) + 1)) := by
  have hg := h.hg
  have e3 : g_R_bytes R = some (nI (g - f)) := by rw [g_R_bytes, h.gR, fR, y_sub hfg]
  have e4 : ((if ¬ nI (g - f) = 0 then if zk_in ((zg_i R 0 5) - 1) 400 = true then some (zg_i R 3 (zn ((zg_i R 0 5) - 1))) else none else some 0) : Option Int32) = some la := by
    by_cases q : f = g
    · rw [if_neg (show ¬ ¬ nI (g - f) = 0 from fun t => t (by rw [q, Nat.sub_self]; rfl)), hla q]
    · rw [if_pos (show ¬ nI (g - f) = 0 from fun t => by have := (y_eq (b := 0) (by omega) (by omega)).mp t; omega), h.gR, show nI g - 1 = nI (g - 1) from y_sub (b := 1) (by omega), if_pos (y_in (by omega) (by omega)), y_zn (by omega), hla2 (by omega)]
  have e5 : ((if al = 0 then some 0 else if zk_in ((zg_i R 0 5) - (((zg_l R 0 13)).toInt32)) 400 = true then some (zg_i R 3 (zn ((zg_i R 0 5) - (((zg_l R 0 13)).toInt32)))) else none) : Option Int32) = some mR := by
    rcases hm with ⟨q1, q2⟩ | ⟨q1, d, q2, q3, q4, q5⟩
    · rw [if_pos q1, q2]
    · rw [if_neg q1, h.gR, q4, v_to, y_sub q3, if_pos (y_in (by omega) (by omega)), y_zn (by omega), q5]
  rw [g_R_literal, e3, o_sb, e4, o_sb, hb, o_sb, hal, o_sb, e5, o_sb]
theorem k_lit {n m g b r c x e lc lp pb st a f U la mt : Nat} {Z : Nat → Nat} {D R : zx_D} (q q' : Int32) (h : zA n m g b r c x e lc lp pb st Z D R) (hcr : c < r) (K : zK a f g U D R) (S : zDs D R) (hg : g < U) (hz : tot zKL Z + tot zFs Z ≤ g + 1) (hl : la < 256) (hla : f = g → la = 0) (hla2 : f < g → zg_i R 3 (g - 1) = nI la) (hm : mt < 256) (hds : 7 ≤ st → ∃ d, 1 ≤ d ∧ d + f ≤ g ∧ zg_l R 0 13 = nL d ∧ zg_i R 3 (g - d) = nI mt) : zStp n m g b e lc lp pb a f U D R (c_tk 1 q (nI (g - f)) (nI la) (nI mt) D) (r_tk 1 q' R) := by
  have hU := K.U4
  have hfg := K.fg
  have hst := h.md.hs
  have hv := h.v
  have h' : zA n m g b r c x e lc lp pb st Z (zp_i D 7 7 1) R := ⟨⟨hv.hn, hv.hm, hv.pC, hv.pR, hv.pB, hv.kC, hv.kR, hv.kB, hv.sz, hv.fa, hv.wh, hv.wa, hv.lo, hv.kr, hv.kc, hv.c0, hv.cs, hv.en, hv.hg, hv.gC, hv.gR, hv.gB, hv.bR, hv.bC, hv.bS⟩, h.bC, h.bR, h.hr1, h.hr2, h.rC, h.rR, h.hc, h.cC, h.cR, h.be, h.nC, h.nR, h.eC, h.eR, h.xe, h.em, ⟨h.md.hc, h.md.hp, h.md.lcC, h.md.lcR, h.md.lpC, h.md.lpR, h.md.pbC, h.md.pbR, h.md.hs, h.md.stC, h.md.stR, h.md.ch⟩⟩
  have hctx := zctx_lt (lc := lc) (lp := lp) (p := g - f) (la := la) h.md.hc hl
  have bC : (2052 + (768 * ((zo_shl (nI (g - f) &&& ((zo_shl 1 (zg_i D 7 4)) - 1)) (zg_i D 7 3)) + (zo_ushr (nI la) (8 - (zg_i D 7 3))))) : Int32) = nI (2052 + 768 * zctx lc lp (g - f) la) := by
    rw [h.md.lpC, h.md.lcC]
    exact zctx_C h.md.hc (by omega) hl
  have bR : g_R_context (nI (g - f)) (nI la) R = some (nI (768 * zctx lc lp (g - f) la)) := by
    rw [g_R_context, h.md.lpR, h.md.lcR]
    exact congrArg some (zctx_R h.md.hc (by omega) hl)
  obtain ⟨al, mR, hal1, halC, halR, hmR, hmm, hmR2⟩ : ∃ al mR : Nat, al ≤ 1 ∧ ((if zg_i (zp_i D 7 7 1) 7 2 < 7 then some 0 else some 1) : Option Int32) = some (nI al) ∧ ((if zg_i R 0 12 ≤ 6 then some 0 else if ¬ zg_i R 0 22 = 0 then some 0 else some 1) : Option Int32) = some (nI al) ∧ mR < 256 ∧ (al = 1 → mt = mR) ∧ (nI al = 0 ∧ nI mR = 0 ∨ ¬ nI al = 0 ∧ ∃ d, 1 ≤ d ∧ d ≤ g ∧ zg_l R 0 13 = nL d ∧ zg_i R 3 (g - d) = nI mR) := by
    have s7 : zg_i (zp_i D 7 7 1) 7 2 = nI st := h.md.stC
    rw [s7, h.md.stR]
    by_cases t : st < 7
    · exact ⟨0, 0, by omega, by rw [if_pos (show nI st < 7 from (y_lt (b := 7) (by omega) (by omega)).mpr t)]; rfl, by rw [if_pos (show nI st ≤ 6 from (y_le (b := 6) (by omega) (by omega)).mpr (by omega))]; rfl, by omega, fun q => by omega, Or.inl ⟨rfl, rfl⟩⟩
    · obtain ⟨d, d1, d2, d3, d4⟩ := hds (by omega)
      refine ⟨1, mt, by omega, by rw [if_neg (show ¬ nI st < 7 from fun q => t ((y_lt (b := 7) (by omega) (by omega)).mp q))]; rfl, ?_, hm, fun _ => rfl, Or.inr ⟨by decide, d, d1, by omega, d3, d4⟩⟩
      rw [if_neg (show ¬ nI st ≤ 6 from fun q => by have := (y_le (b := 6) (by omega) (by omega)).mp q; omega), if_neg (fun q => q h.bR)]
      rfl
  have eR := r_litE hv hfg K.fR (la := nI la) (fun t => by rw [hla t]; rfl) hla2 bR halR hmR2
  have w1 : zW D (zp_i D 7 7 1) R R := ⟨fun k => rfl, fun k => rfl, fun k => rfl, fun k _ _ _ _ _ => rfl⟩
  rw [r_tk1, eR]
  unfold c_tk
  rw [if_pos rfl, bC]
  rcases d_litL hctx hm hmR 8 10000 10000 al 1 r c x Z (zp_i D 7 7 1) R (by omega) (by omega) (by omega) hal1 hmm (by decide) (by decide) h' hcr with ⟨v', r', c', x', Z', D2, R2, u1, u2, u3, u4, u5, u6, u7, u8, u9⟩ | ⟨v', D2, R2, u1, u2, u3, u4, u5, u6⟩
  · have u3 : g_Mdl_codeLiteral_s_22 (nI (2052 + 768 * zctx lc lp (g - f) la)) (nI mt) 10000 (nI al) 1 7 (zp_i D 7 7 1) = some (nI v', D2) := u3
    have u4 : g_R_literal_84 (nI (768 * zctx lc lp (g - f) la)) (nI mR) 10000 (nI al) 1 7 R = some (nI v', R2) := u4
    have hy : nI v' - 256 = nI (v' - 256) := y_sub (b := 256) u1
    have hy2 : nI v' &&& 255 = nI (v' - 256) := by
      rw [y_low8 (by omega), show v' % 256 = v' - 256 by omega]
    have hyB : y_B (nI (v' - 256)) := ⟨v' - 256, by omega, rfl⟩
    have eC : g_Mdl_codeLiteral_s (nI (2052 + 768 * zctx lc lp (g - f) la)) (nI mt) (zp_i D 7 7 1) = some (nI (v' - 256), D2) := by
      rw [g_Mdl_codeLiteral_s, halC, o_sb, u3, o_sb, hy]
    have s2 : zg_i D2 7 2 = nI st := u5.md.stC
    have k2 : zg_i D2 7 7 = 1 := (u6.c 7 7 (by omega) (by omega)).trans rfl
    have g2 : zg_i D2 10 1 = nI g := u5.v.gC
    have l2 : zg_i R2 0 21 = nI (U - g) := (u6.r 21 (by omega) (by omega)).trans K.lf
    have b2 : zg_i R2 0 22 = 0 := u5.bR
    left
    have hA := zA_push u5 (show g < 400 by omega) hyB (nI (U - (g + 1)))
    have hM : zM lc lp pb (zaf st) Z' (zpC (zp_i (zp_i (zp_i D2 7 8 (nI (v' - 256))) 7 9 1) 7 2 (nI (zaf st))) g (nI (v' - 256))) (zp_i (zpR R2 g (nI (v' - 256)) (nI (U - (g + 1)))) 0 12 (nI (zaf st))) := by
      have := zaf_lt hst
      refine zM_up hA.md (fun p k hp => ?_) (fun k h3 h5 => ?_) (fun p k hp => ?_) (by omega) rfl rfl
      · simp [zpC, y_gi, hp]
      · simp [zpC, y_gi, show k ≠ 2 by omega, show k ≠ 9 by omega, show k ≠ 8 by omega]
      · simp [zpR, y_gi, hp]
    have hA2 := zA_md (st' := zaf st) hA (D' := zpC (zp_i (zp_i (zp_i D2 7 8 (nI (v' - 256))) 7 9 1) 7 2 (nI (zaf st))) g (nI (v' - 256))) (R' := zp_i (zpR R2 g (nI (v' - 256)) (nI (U - (g + 1)))) 0 12 (nI (zaf st))) (fun p k hp => by simp [zpC, y_gi, hp]) (fun p k h1 h2 => rfl) (fun p k hp => by simp [zpR, y_gi, hp]) (fun k hk => rfl) hM
    have hA3 := zA_cnt hA2 (kd := 1) (by omega) (by omega)
    have w3 : zW D2 (zp_i (zpC (zp_i (zp_i (zp_i D2 7 8 (nI (v' - 256))) 7 9 1) 7 2 (nI (zaf st))) g (nI (v' - 256))) 14 1 (zg_i (zpC (zp_i (zp_i (zp_i D2 7 8 (nI (v' - 256))) 7 9 1) 7 2 (nI (zaf st))) g (nI (v' - 256))) 14 1 + 1)) R2 (zp_i (zp_i (zpR R2 g (nI (v' - 256)) (nI (U - (g + 1)))) 0 12 (nI (zaf st))) 9 1 (zg_i (zp_i (zpR R2 g (nI (v' - 256)) (nI (U - (g + 1)))) 0 12 (nI (zaf st))) 9 1 + 1)) :=
      ⟨fun k => rfl, fun k => rfl, fun k => rfl, fun k a1 a2 a3 a4 a5 => by simp [zpR, y_gi, a1, a2, a4]⟩
    have w := (w1.trans u6.w).trans w3
    refine ⟨1, 1, r', c', x', zaf st, Z', zp_i (zp_i (zp_i D2 7 8 (nI (v' - 256))) 7 9 1) 7 2 (nI (zaf st)), zpC (zp_i (zp_i (zp_i D2 7 8 (nI (v' - 256))) 7 9 1) 7 2 (nI (zaf st))) g (nI (v' - 256)), _, by omega, by omega, by omega, ?_, u5.bC, ?_, k2, ?_, ⟨hA3, K.w w rfl (by omega) (by omega), ⟨by omega, Or.inl u7⟩, S.fr (fun k => (u6.cl 8 k (by omega)).trans rfl) (fun k _ _ => (u6.rl k (by omega) (by omega) (by omega) (by omega)).trans rfl), fun t => by have := zaf_lt hst; omega⟩, w⟩
    · rw [eC, o_sb]
      exact c_after hst s2 (fun y => zp_i (zp_i (zp_i D2 7 8 (nI (v' - 256))) 7 9 1) 7 2 y)
    · have k3 : zg_i (zp_i (zp_i (zp_i D2 7 8 (nI (v' - 256))) 7 9 1) 7 2 (nI (zaf st))) 7 7 = 1 := k2
      have g3 : zg_i (zp_i (zp_i (zp_i D2 7 8 (nI (v' - 256))) 7 9 1) 7 2 (nI (zaf st))) 10 1 = nI g := g2
      have o3 : zg_i (zp_i (zp_i (zp_i D2 7 8 (nI (v' - 256))) 7 9 1) 7 2 (nI (zaf st))) 7 8 = nI (v' - 256) := rfl
      rw [g_Unp_giveStep, if_neg (fun t => t k3), o3, c_app10' g3 (by omega), o_sb]
    · have s3 : zg_i (zpR R2 g (nI (v' - 256)) (nI (U - (g + 1)))) 0 12 = nI st := u5.md.stR
      rw [u4, o_sb]
      show (if ¬ zg_i R2 0 22 = 0 then some R2 else (g_R_give (nI v' &&& 255) R2).bind fun q9 => (g_R_after (zg_i q9 0 12) q9).bind fun q10 => some (zp_i (zp_i q9 0 12 q10) 9 (zn 1) ((zg_i q9 9 (zn 1)) + 1))) = _
      rw [if_neg (fun t => t b2), hy2, r_give u5.v (by omega) l2 (by omega), o_sb, s3, r_after hst, o_sb]
      rfl
  · have u3 : g_Mdl_codeLiteral_s_22 (nI (2052 + 768 * zctx lc lp (g - f) la)) (nI mt) 10000 (nI al) 1 7 (zp_i D 7 7 1) = some (nI v', D2) := u3
    have u4 : g_R_literal_84 (nI (768 * zctx lc lp (g - f) la)) (nI mR) 10000 (nI al) 1 7 R = some (nI v', R2) := u4
    have eC : g_Mdl_codeLiteral_s (nI (2052 + 768 * zctx lc lp (g - f) la)) (nI mt) (zp_i D 7 7 1) = some (nI v' - 256, D2) := by
      rw [g_Mdl_codeLiteral_s, halC, o_sb, u3, o_sb]
    have s2 : zg_i D2 7 2 = nI st := (u6.c 7 2 (by omega) (by omega)).trans h.md.stC
    refine zStp.x (D1 := zp_i (zp_i (zp_i D2 7 8 (nI v' - 256)) 7 9 1) 7 2 (nI (zaf st))) (R1 := R2) ?_ ?_ ?_ ((w1.trans u6.w).trans ⟨fun k => rfl, fun k => rfl, fun k => rfl, fun k _ _ _ _ _ => rfl⟩)
    · rw [eC, o_sb]
      exact c_after hst s2 (fun y => zp_i (zp_i (zp_i D2 7 8 (nI v' - 256)) 7 9 1) 7 2 y)
    · rw [u4, o_sb]
      exact if_pos u5.bR
    · exact zX_md u5 (fun p k hp => by simp [y_gi, hp]) (fun p k _ _ => rfl) (fun p k _ => rfl) (fun k _ => rfl)
