abbrev zHs (D D' R R' : zx_D) : Prop := Nonempty ((∀ p k, p ≠ 6 → p ≠ 7 → p ≠ 20 → p ≠ 21 → zg_i D' p k = zg_i D p k) ∧ (∀ p k, p ≠ 7 → p ≠ 8 → p ≠ 20 → zg_l D' p k = zg_l D p k) ∧ (∀ k, k ≠ 12 → k ≠ 25 → k ≠ 27 → zg_i R' 0 k = zg_i R 0 k) ∧ (∀ p k, p ≠ 0 → p ≠ 5 → p ≠ 6 → zg_i R' p k = zg_i R p k) ∧ (∀ k, k < 13 ∨ 17 < k → zg_l R' 0 k = zg_l R 0 k) ∧ (∀ k, 3 ≤ k → k ≤ 5 → zg_i D' 7 k = zg_i D 7 k))
theorem zHs.c {D D' R R' : zx_D} (h : zHs D D' R R') : ∀ p k, p ≠ 6 → p ≠ 7 → p ≠ 20 → p ≠ 21 → zg_i D' p k = zg_i D p k := h.elim fun q => q.1
theorem zHs.cl {D D' R R' : zx_D} (h : zHs D D' R R') : ∀ p k, p ≠ 7 → p ≠ 8 → p ≠ 20 → zg_l D' p k = zg_l D p k := h.elim fun q => q.2.1
theorem zHs.r {D D' R R' : zx_D} (h : zHs D D' R R') : ∀ k, k ≠ 12 → k ≠ 25 → k ≠ 27 → zg_i R' 0 k = zg_i R 0 k := h.elim fun q => q.2.2.1
theorem zHs.rp {D D' R R' : zx_D} (h : zHs D D' R R') : ∀ p k, p ≠ 0 → p ≠ 5 → p ≠ 6 → zg_i R' p k = zg_i R p k := h.elim fun q => q.2.2.2.1
theorem zHs.rl {D D' R R' : zx_D} (h : zHs D D' R R') : ∀ k, k < 13 ∨ 17 < k → zg_l R' 0 k = zg_l R 0 k := h.elim fun q => q.2.2.2.2.1
theorem zHs.k7 {D D' R R' : zx_D} (h : zHs D D' R R') : ∀ k, 3 ≤ k → k ≤ 5 → zg_i D' 7 k = zg_i D 7 k := h.elim fun q => q.2.2.2.2.2
theorem zHs_rfl {D R : zx_D} : zHs D D R R := ⟨fun _ _ _ _ _ _ => Eq.refl _, fun _ _ _ _ _ => Eq.refl _, fun _ _ _ _ => Eq.refl _, fun _ _ _ _ _ => Eq.refl _, fun _ _ => Eq.refl _, fun _ _ _ => Eq.refl _⟩
theorem zHs.trans {D D' D'' R R' R'' : zx_D} (h1 : zHs D D' R R') (h2 : zHs D' D'' R' R'') : zHs D D'' R R'' :=
  ⟨fun p k a1 a2 a3 a4 => (h2.c p k a1 a2 a3 a4).trans (h1.c p k a1 a2 a3 a4), fun p k a1 a2 a3 => (h2.cl p k a1 a2 a3).trans (h1.cl p k a1 a2 a3), fun k a1 a2 a3 => (h2.r k a1 a2 a3).trans (h1.r k a1 a2 a3), fun p k a1 a2 a3 => (h2.rp p k a1 a2 a3).trans (h1.rp p k a1 a2 a3), fun k a1 => (h2.rl k a1).trans (h1.rl k a1), fun k a1 a2 => (h2.k7 k a1 a2).trans (h1.k7 k a1 a2)⟩
theorem zH.s {D D' R R' : zx_D} (h : zH D D' R R') : zHs D D' R R' := ⟨fun p k a1 _ a3 a4 => h.c p k a1 a3 a4, fun p k _ _ a3 => h.cl p k a3, fun k _ a2 a3 => h.r k a2 a3, h.rp, fun k hk => h.rl k (by omega), fun k _ _ => h.c 7 k (by omega) (by omega) (by omega)⟩
def zTk (n L lc lp pb P len : Nat) (D R : zx_D) (oC oR : Option zx_D) : Prop := ∃ D' R', oC = some D' ∧ oR = some R' ∧ zg_i D' 7 9 = nI len ∧ zHs D D' R R' ∧ ((∃ st', (∃ sz r, zN n L sz r lc lp pb st' D' R') ∧ zDs D' R' ∧ (7 ≤ st' → ∃ d, 1 ≤ d ∧ d ≤ P + len ∧ zg_l R' 0 13 = nL d)) ∨ zL D' R')
theorem zTk.mk' {n L lc lp pb P len st' : Nat} {D R D' R' : zx_D} {oC oR : Option zx_D} (h1 : oC = some D') (h2 : oR = some R') (h3 : zg_i D' 7 9 = nI len) (h4 : zHs D D' R R') (h5 : zE2 n L lc lp pb st' D' R') (h6 : zDs D' R') (h7 : 7 ≤ st' → ∃ d, 1 ≤ d ∧ d ≤ P + len ∧ zg_l R' 0 13 = nL d) : zTk n L lc lp pb P len D R oC oR := by
  refine ⟨D', R', h1, h2, h3, h4, ?_⟩
  rcases h5 with h5 | h5
  · exact Or.inl ⟨st', h5, h6, h7⟩
  · exact Or.inr h5
theorem ixm {st Q : Nat} (h1 : st < 12) (h2 : Q < 16) : 6144 + 16 * nI st + nI Q = nI (zf (st * 16 + Q)) := by
  rw [show (16 : Int32) = nI 16 from rfl, y_mul, show (6144 : Int32) = nI 6144 from rfl, y_add, y_add, zf_kind (by omega)]
  congr 1
  omega
theorem ixl {st Q : Nat} (h1 : st < 12) (h2 : Q < 16) : 6336 + 16 * nI st + nI Q = nI (zf (192 + st * 16 + Q)) := by
  rw [show (16 : Int32) = nI 16 from rfl, y_mul, show (6336 : Int32) = nI 6336 from rfl, y_add, y_add, zf_kind (by omega)]
  congr 1
  omega
theorem ixa {st : Nat} (h1 : st < 12) : 6528 + nI st = nI (zf (384 + st)) := by
  rw [show (6528 : Int32) = nI 6528 from rfl, y_add, zf_kind (by omega)]
  congr 1
  omega
theorem ixz {st : Nat} (h1 : st < 12) : 6540 + nI st = nI (zf (396 + st)) := by
  rw [show (6540 : Int32) = nI 6540 from rfl, y_add, zf_kind (by omega)]
  congr 1
  omega
theorem ixo {st : Nat} (h1 : st < 12) : 6552 + nI st = nI (zf (408 + st)) := by
  rw [show (6552 : Int32) = nI 6552 from rfl, y_add, zf_kind (by omega)]
  congr 1
  omega
theorem ixt {st : Nat} (h1 : st < 12) : 6564 + nI st = nI (zf (420 + st)) := by
  rw [show (6564 : Int32) = nI 6564 from rfl, y_add, zf_kind (by omega)]
  congr 1
  omega
theorem t_lit {n L lc lp pb st P Q la mt ob : Nat} {D R : zx_D} (J : zJ n lc lp pb st D R) (h : zE2 n L lc lp pb st D R) (S : zDs D R) (hQ : Q = P % 2 ^ pb) (hP : P < n) (hk : zg_i D 7 7 = nI 1) (ho : ob < 256) (h78 : zg_i D 7 8 = nI ob) (hob : zg_i R 1 P = nI ob) (hl : la < 256) (hla : P = 0 → la = 0) (hla2 : 0 < P → zg_i R 1 (P - 1) = nI la) (hm : mt < 256) (hds : 7 ≤ st → ∃ d, 1 ≤ d ∧ d ≤ P ∧ zg_l R 0 13 = nL d ∧ zg_i R 1 (P - d) = nI mt) : zTk n L lc lp pb P 1 D R (g_Mdl_step_k (nI P) (nI la) (nI mt) D) (g_R_putLiteral (nI P) (nI Q) R) := by
  have hn := J.hn
  have hst := J.hs
  have hpb := J.hp
  have hQ16 : Q < 16 := by
    have h1 : P % 2 ^ pb < 2 ^ pb := Nat.mod_lt _ (Nat.two_pow_pos pb)
    have h2 : 2 ^ pb ≤ 2 ^ 4 := Nat.pow_le_pow_right (by omega) hpb
    omega
  have hqC : nI P &&& ((zo_shl 1 (zg_i D 7 5)) - 1) = nI Q := by rw [J.pbC, y_mask (by omega) hpb, hQ]
  obtain ⟨D1, R1, a1, a2, a3, a4, a5⟩ := pk_1 J hQ16 hk h
  have a2 : g_R_put (nI (zf (st * 16 + Q))) 0 R = some R1 := a2
  have J1 := J.h a5
  have hctx := zctx_lt (lc := lc) (lp := lp) (p := P) (la := la) J.hc hl
  have bC : (2052 + (768 * ((zo_shl (nI P &&& ((zo_shl 1 (zg_i D1 7 4)) - 1)) (zg_i D1 7 3)) + (zo_ushr (nI la) (8 - (zg_i D1 7 3))))) : Int32) = nI (2052 + 768 * zctx lc lp P la) := by
    rw [J1.lpC, J1.lcC]
    exact zctx_C J.hc (by omega) hl
  have bR : g_R_context (nI P) (nI la) R1 = some (nI (768 * zctx lc lp P la)) := by
    rw [g_R_context, J1.lpR, J1.lcR]
    exact congrArg some (zctx_R J.hc (by omega) hl)
  have r1 : ∀ i, zg_i R1 1 i = zg_i R 1 i := fun i => a5.rp 1 i (by omega) (by omega) (by omega)
  have r13 : zg_l R1 0 13 = zg_l R 0 13 := a5.rl 13 (by omega)
  have eL : ((if ¬ nI P = 0 then if zk_in (nI P - 1) 400 = true then some (zg_i R1 1 (zn (nI P - 1))) else none else some 0) : Option Int32) = some (nI la) := by
    by_cases t : P = 0
    · rw [if_neg (show ¬ ¬ nI P = 0 from fun q => q (by rw [t]; rfl)), hla t]
      rfl
    · rw [if_pos (show ¬ nI P = 0 from fun q => t ((y_eq (b := 0) (by omega) (by omega)).mp q)), show nI P - 1 = nI (P - 1) from y_sub (b := 1) (by omega), if_pos (y_in (by omega) (by omega)), y_zn (by omega), r1, hla2 (by omega)]
  obtain ⟨al, mR, hal1, halC, halR, hmR, hmm, hmR2⟩ : ∃ al mR : Nat, al ≤ 1 ∧ ((if zg_i (zp_i D1 7 7 1) 7 2 < 7 then some 0 else some 1) : Option Int32) = some (nI al) ∧ ((if zg_i R1 0 12 ≤ 6 then some 0 else some 1) : Option Int32) = some (nI al) ∧ mR < 256 ∧ (al = 1 → mt = mR) ∧ ((if nI al = 0 then some 0 else if zk_in (nI P - (((zg_l R1 0 13)).toInt32)) 400 = true then some (zg_i R1 1 (zn (nI P - (((zg_l R1 0 13)).toInt32)))) else none) : Option Int32) = some (nI mR) := by
    have s7 : zg_i (zp_i D1 7 7 1) 7 2 = nI st := J1.stC
    rw [s7, J1.stR]
    by_cases t : st < 7
    · refine ⟨0, 0, by omega, by rw [if_pos (show nI st < 7 from (y_lt (b := 7) (by omega) (by omega)).mpr t)]; rfl, by rw [if_pos (show nI st ≤ 6 from (y_le (b := 6) (by omega) (by omega)).mpr (by omega))]; rfl, by omega, fun q => by omega, rfl⟩
    · obtain ⟨d, d1, d2, d3, d4⟩ := hds (by omega)
      refine ⟨1, mt, by omega, by rw [if_neg (show ¬ nI st < 7 from fun q => t ((y_lt (b := 7) (by omega) (by omega)).mp q))]; rfl, by rw [if_neg (show ¬ nI st ≤ 6 from fun q => by have := (y_le (b := 6) (by omega) (by omega)).mp q; omega)]; rfl, hm, fun _ => rfl, ?_⟩
      rw [if_neg (show ¬ nI 1 = 0 by decide), r13, d3, v_to, y_sub d2, if_pos (y_in (by omega) (by omega)), y_zn (by omega), r1, d4]
  have h1' : zE2 n L lc lp pb st (zp_i D1 7 7 1) R1 := zE2_fr a4 (fun p k hp => by simp [y_gi, hp]) (fun k k1 k2 => by simp [y_gi, show k ≠ 7 by omega]) (fun p k _ _ => rfl) (fun p k => rfl) (fun k _ => rfl)
  obtain ⟨D2, R2, u1, u2, u3, u4⟩ := p_litL J.hc hctx hm hmR ho 8 10000 10000 al 1 (zp_i D1 7 7 1) R1 (by omega) (by omega) (by omega) hal1 hmm (by
    have : ob / 2 ^ 8 = 0 := Nat.div_eq_of_lt ho
    rw [this]) ((a5.c 7 8 (by omega) (by omega) (by omega)).trans h78) h1'
  have u1 : g_Mdl_codeLiteral_k_22 (nI (2052 + 768 * zctx lc lp P la)) (nI mt) 10000 (nI al) 1 7 (zp_i D1 7 7 1) = some (nI (256 + ob), D2) := u1
  have u2 : g_R_putLiteral_94 (nI (768 * zctx lc lp P la)) (nI mR) (nI ob) 10000 (nI al) 1 7 R1 = some R2 := u2
  have s2 : zg_i D2 7 2 = nI st := (u4.c 7 2 (by omega) (by omega) (by omega)).trans J1.stC
  have s12 : zg_i R2 0 12 = nI st := (u4.r 12 (by omega) (by omega)).trans J1.stR
  have eC : g_Mdl_codeLiteral_k (nI (2052 + 768 * zctx lc lp P la)) (nI mt) (zp_i D1 7 7 1) = some (nI (256 + ob) - 256, D2) := by
    rw [g_Mdl_codeLiteral_k, halC, o_sb, u1, o_sb]
  have hz := zaf_lt hst
  have hE3 : zE2 n L lc lp pb (zaf st) (zp_i (zp_i (zp_i D2 7 8 (nI (256 + ob) - 256)) 7 9 1) 7 2 (nI (zaf st))) (zp_i R2 0 12 (nI (zaf st))) := by
    refine zE2_st (st := st) (by omega) (zE2_fr u3 (fun p k hp => by simp [y_gi, hp]) (fun k k1 k2 => by simp [y_gi, show k ≠ 8 by omega, show k ≠ 9 by omega]) (fun p k _ _ => rfl) (fun p k => rfl) (fun k _ => rfl))
  have w1 : zHs D1 (zp_i D1 7 7 1) R1 R1 := ⟨fun p k _ a2 _ _ => by simp [y_gi, a2], fun _ _ _ _ _ => rfl, fun _ _ _ _ => rfl, fun _ _ _ _ _ => rfl, fun _ _ => rfl, fun k k1 k2 => by simp [y_gi, show k ≠ 7 by omega]⟩
  have w3 : zHs D2 (zp_i (zp_i (zp_i D2 7 8 (nI (256 + ob) - 256)) 7 9 1) 7 2 (nI (zaf st))) R2 (zp_i R2 0 12 (nI (zaf st))) := ⟨fun p k _ a2 _ _ => by simp [y_gi, a2], fun _ _ _ _ _ => rfl, fun k b1 _ _ => by simp [y_gi, b1], fun p k b1 _ _ => by simp [y_gi, b1], fun _ _ => rfl, fun k k1 k2 => by simp [y_gi, show k ≠ 7 by omega, show k ≠ 8 by omega, show k ≠ 9 by omega, show k ≠ 2 by omega]⟩
  refine zTk.mk' (D' := zp_i (zp_i (zp_i D2 7 8 (nI (256 + ob) - 256)) 7 9 1) 7 2 (nI (zaf st))) (R' := zp_i R2 0 12 (nI (zaf st))) ?_ ?_ rfl (((a5.s.trans w1).trans u4.s).trans w3) hE3 ((S.h a5).fr (fun k => (u4.cl 8 k (by omega)).trans rfl) (fun k k1 k2 => (u4.rl k (by omega)).trans rfl)) (fun t => by omega)
  · rw [c_stepk (kd := 1) (by omega) (by omega) hqC a1]
    unfold c_tkk
    rw [if_pos rfl, bC, eC, o_sb]
    exact c_after hst s2 (fun y => zp_i (zp_i (zp_i D2 7 8 (nI (256 + ob) - 256)) 7 9 1) 7 2 y)
  · have zP1 : zk_in (nI P) 400 = true := y_in (by omega) (by omega)
    have zP2 : zn (nI P) = P := y_zn (by omega)
    rw [g_R_putLiteral, J.stR, ixm hst hQ16, a2, o_sb, eL, o_sb, bR, o_sb, halR, o_sb, hmR2, o_sb, if_pos zP1, zP2, r1, hob, u2, o_sb, s12, r_after hst, o_sb]
theorem t_single {n L lc lp pb st P Q : Nat} {x2 x3 : Int32} {D R : zx_D} (J : zJ n lc lp pb st D R) (h : zE2 n L lc lp pb st D R) (S : zDs D R) (hQ : Q = P % 2 ^ pb) (hP : P < 400) (hk : zg_i D 7 7 = nI 3) {d : Nat} (hd1 : 1 ≤ d) (hd2 : d ≤ P) (hd : zg_l R 0 13 = nL d) : zTk n L lc lp pb P 1 D R (g_Mdl_step_k (nI P) x2 x3 D) ((g_R_put ((6144 + (16 * (zg_i R 0 12))) + nI Q) 1 R).bind fun q15 => (g_R_put (6528 + (zg_i q15 0 12)) 1 q15).bind fun q16 => (g_R_put (6540 + (zg_i q16 0 12)) 0 q16).bind fun q17 => (g_R_put ((6336 + (16 * (zg_i q17 0 12))) + nI Q) 0 q17).bind fun q18 => if 7 ≤ zg_i q18 0 12 then some (zp_i q18 0 12 11) else some (zp_i q18 0 12 9)) := by
  have hst := J.hs
  have hpb := J.hp
  have hQ16 : Q < 16 := by
    have h1 : P % 2 ^ pb < 2 ^ pb := Nat.mod_lt _ (Nat.two_pow_pos pb)
    have h2 : 2 ^ pb ≤ 2 ^ 4 := Nat.pow_le_pow_right (by omega) hpb
    omega
  have hqC : nI P &&& ((zo_shl 1 (zg_i D 7 5)) - 1) = nI Q := by rw [J.pbC, y_mask (by omega) hpb, hQ]
  obtain ⟨D1, R1, R2, R3, R4, a1, b1, s1, b2, s2, b3, s3, b4, s4, c1, e1⟩ := pk_3 J hQ16 hk h
  have b1 : g_R_put (nI (zf (st * 16 + Q))) 1 R = some R1 := b1
  have b2 : g_R_put (nI (zf (384 + st))) 1 R1 = some R2 := b2
  have b3 : g_R_put (nI (zf (396 + st))) 0 R2 = some R3 := b3
  have b4 : g_R_put (nI (zf (192 + st * 16 + Q))) 0 R3 = some R4 := b4
  have J1 := J.h e1
  rw [c_stepk (kd := 3) (by omega) (by omega) hqC a1, J.stR, ixm hst hQ16, b1, o_sb, s1, ixa hst, b2, o_sb, s2, ixz hst, b3, o_sb, s3, ixl hst hQ16, b4, o_sb, s4]
  unfold c_tkk
  rw [if_neg (by decide), if_neg (by decide), if_pos rfl, J1.stC]
  have key : ∀ s', s' < 12 → zTk n L lc lp pb P 1 D R (some (zp_i (zp_i (zp_i D1 7 7 3) 7 9 1) 7 2 (nI s'))) (some (zp_i R4 0 12 (nI s'))) := by
    intro s' hs'
    have hE : zE2 n L lc lp pb s' (zp_i (zp_i (zp_i D1 7 7 3) 7 9 1) 7 2 (nI s')) (zp_i R4 0 12 (nI s')) := zE2_st (st := st) hs' (zE2_fr c1 (fun p k hp => by simp [y_gi, hp]) (fun k k1 k2 => by simp [y_gi, show k ≠ 7 by omega, show k ≠ 9 by omega]) (fun p k _ _ => rfl) (fun p k => rfl) (fun k _ => rfl))
    have w3 : zHs D1 (zp_i (zp_i (zp_i D1 7 7 3) 7 9 1) 7 2 (nI s')) R4 (zp_i R4 0 12 (nI s')) := ⟨fun p k _ a2 _ _ => by simp [y_gi, a2], fun _ _ _ _ _ => rfl, fun k b1 _ _ => by simp [y_gi, b1], fun p k b1 _ _ => by simp [y_gi, b1], fun _ _ => rfl, fun k k1 k2 => by simp [y_gi, show k ≠ 7 by omega, show k ≠ 9 by omega, show k ≠ 2 by omega]⟩
    exact zTk.mk' rfl rfl rfl (e1.s.trans w3) hE ((S.h e1).fr (fun k => rfl) (fun k _ _ => rfl)) (fun _ => ⟨d, hd1, by omega, (e1.rl 13 (by omega)).trans hd⟩)
  by_cases t : (7 : Int32) ≤ nI st
  · rw [if_pos t, if_pos t]
    exact key 11 (by omega)
  · rw [if_neg t, if_neg t]
    exact key 9 (by omega)
def r_prep (k : Nat) (x2 x3 : Int32) (q9 : zx_D) : Option zx_D :=
  (g_R_turn (nI k) q9).bind fun q10 =>
  (g_R_putLength 7092 x2 x3 q10).bind fun q11 =>
  if 7 ≤ zg_i q11 0 12 then
    some (zp_i q11 0 12 11)
  else
    some (zp_i q11 0 12 8)
theorem t_repE {n L lc lp pb st P Q k len : Nat} {D R D1 R1 : zx_D} (hk : k ≤ 3) (hQ : Q < 16) (J : zJ n lc lp pb st D1 R1) (h : zE2 n L lc lp pb st D1 R1) (S : zDs D1 R1) (e : zH D D1 R R1) (hl2 : 2 ≤ len) (hl : len ≤ 273) (h79 : zg_i D1 7 9 = nI len) (hd : ∃ d, 1 ≤ d ∧ d ≤ P ∧ zg_l R1 0 (13 + k) = nL d) : zTk n L lc lp pb P len D R ((g_Mdl_bringForward (nI k) (zg_l D1 8 k) (zp_i D1 7 7 (nI (4 + k)))).bind fun q2 => (g_Mdl_codeLength_k 946 (nI Q) q2).bind fun q3 => if 7 ≤ zg_i q3.2 7 2 then some (zp_i (zp_i q3.2 7 9 q3.1) 7 2 11) else some (zp_i (zp_i q3.2 7 9 q3.1) 7 2 8)) (r_prep k (nI len) (nI Q) R1) := by
  obtain ⟨D2, b1, b2, b3, b4, b5, b6⟩ := c_bf k hk (zg_l D1 8 k) (zp_i D1 7 7 (nI (4 + k)))
  obtain ⟨R2, t1, t2, t3, t4, t5, t6⟩ := r_turn k hk R1
  have hE : zE2 n L lc lp pb st D2 R2 := zE2_fr h (fun p j hp => by rw [b2]; simp [y_gi, hp]) (fun j k1 k2 => by rw [b2]; simp [y_gi, show j ≠ 7 by omega]) (fun p j _ h2 => by rw [b3 p j h2]; rfl) (fun p j => t2 p j) t3
  have S2 : zDs D2 R2 := by
    have hk' : k = 0 ∨ k = 1 ∨ k = 2 ∨ k = 3 := by omega
    obtain ⟨⟨p0, p01, p02, p03, p04⟩, ⟨p1, p11, p12, p13, p14⟩, ⟨p2, p21, p22, p23, p24⟩, ⟨p3, p31, p32, p33, p34⟩⟩ := S
    rcases hk' with rfl | rfl | rfl | rfl
    · exact ⟨⟨p0, p01, p02, b4.trans p03, t4.trans p04⟩, ⟨p1, p11, p12, (b6 1 (by omega) (by omega)).trans p13, (t6 1 (by omega) (by omega)).trans p14⟩, ⟨p2, p21, p22, (b6 2 (by omega) (by omega)).trans p23, (t6 2 (by omega) (by omega)).trans p24⟩, ⟨p3, p31, p32, (b6 3 (by omega) (by omega)).trans p33, (t6 3 (by omega) (by omega)).trans p34⟩⟩
    · exact ⟨⟨p1, p11, p12, b4.trans p13, t4.trans p14⟩, ⟨p0, p01, p02, (b5 1 (by omega) (by omega)).trans p03, (t5 1 (by omega) (by omega)).trans p04⟩, ⟨p2, p21, p22, (b6 2 (by omega) (by omega)).trans p23, (t6 2 (by omega) (by omega)).trans p24⟩, ⟨p3, p31, p32, (b6 3 (by omega) (by omega)).trans p33, (t6 3 (by omega) (by omega)).trans p34⟩⟩
    · exact ⟨⟨p2, p21, p22, b4.trans p23, t4.trans p24⟩, ⟨p0, p01, p02, (b5 1 (by omega) (by omega)).trans p03, (t5 1 (by omega) (by omega)).trans p04⟩, ⟨p1, p11, p12, (b5 2 (by omega) (by omega)).trans p13, (t5 2 (by omega) (by omega)).trans p14⟩, ⟨p3, p31, p32, (b6 3 (by omega) (by omega)).trans p33, (t6 3 (by omega) (by omega)).trans p34⟩⟩
    · exact ⟨⟨p3, p31, p32, b4.trans p33, t4.trans p34⟩, ⟨p0, p01, p02, (b5 1 (by omega) (by omega)).trans p03, (t5 1 (by omega) (by omega)).trans p04⟩, ⟨p1, p11, p12, (b5 2 (by omega) (by omega)).trans p13, (t5 2 (by omega) (by omega)).trans p14⟩, ⟨p2, p21, p22, (b5 3 (by omega) (by omega)).trans p23, (t5 3 (by omega) (by omega)).trans p24⟩⟩
  have e79 : zg_i D2 7 9 = nI len := by
    rw [b2]
    exact h79
  obtain ⟨D3, R3, u1, u2, u3, u4⟩ := p_len (base := 946) (base' := 7092) J.hc hQ (by omega) (fun i hi => zf_rep hi) hl2 hl e79 hE
  have u1 : g_Mdl_codeLength_k 946 (nI Q) D2 = some (nI len, D3) := u1
  have u2 : g_R_putLength 7092 (nI len) (nI Q) R2 = some R3 := u2
  have s2 : zg_i D3 7 2 = nI st := by
    rw [u4.c 7 2 (by omega) (by omega) (by omega), b2]
    exact J.stC
  have s12 : zg_i R3 0 12 = nI st := by
    rw [u4.r 12 (by omega) (by omega), t2]
    exact J.stR
  rw [r_prep, b1, t1, o_sb, o_sb, u1, u2, o_sb, o_sb, s12]
  show zTk n L lc lp pb P len D R (if 7 ≤ zg_i D3 7 2 then some (zp_i (zp_i D3 7 9 (nI len)) 7 2 11) else some (zp_i (zp_i D3 7 9 (nI len)) 7 2 8)) _
  rw [s2]
  obtain ⟨d, d1, d2, d3⟩ := hd
  have w2 : zHs D1 D2 R1 R2 := ⟨fun p j _ a2 _ _ => by rw [b2]; simp [y_gi, a2], fun p j _ a2 _ => by rw [b3 p j a2]; rfl, fun j _ _ _ => t2 0 j, fun p j _ _ _ => t2 p j, fun j hj => t3 j (by omega), fun j j1 j2 => by rw [b2]; simp [y_gi, show j ≠ 7 by omega]⟩
  have key : ∀ s', s' < 12 → zTk n L lc lp pb P len D R (some (zp_i (zp_i D3 7 9 (nI len)) 7 2 (nI s'))) (some (zp_i R3 0 12 (nI s'))) := by
    intro s' hs'
    have hE4 : zE2 n L lc lp pb s' (zp_i (zp_i D3 7 9 (nI len)) 7 2 (nI s')) (zp_i R3 0 12 (nI s')) := zE2_st (st := st) hs' (zE2_fr u3 (fun p k hp => by simp [y_gi, hp]) (fun k k1 k2 => by simp [y_gi, show k ≠ 9 by omega]) (fun p k _ _ => rfl) (fun p k => rfl) (fun k _ => rfl))
    have w3 : zHs D3 (zp_i (zp_i D3 7 9 (nI len)) 7 2 (nI s')) R3 (zp_i R3 0 12 (nI s')) := ⟨fun p k _ a2 _ _ => by simp [y_gi, a2], fun _ _ _ _ _ => rfl, fun k b1 _ _ => by simp [y_gi, b1], fun p k b1 _ _ => by simp [y_gi, b1], fun _ _ => rfl, fun k k1 k2 => by simp [y_gi, show k ≠ 9 by omega, show k ≠ 2 by omega]⟩
    exact zTk.mk' rfl rfl rfl (((e.s.trans w2).trans u4.s).trans w3) hE4 ((S2.h u4).fr (fun k => rfl) (fun k _ _ => rfl)) (fun _ => ⟨d, d1, by omega, (u4.rl 13 (by omega)).trans (t4.trans d3)⟩)
  by_cases t : (7 : Int32) ≤ nI st
  · rw [if_pos t, if_pos t]
    exact key 11 (by omega)
  · rw [if_neg t, if_neg t]
    exact key 8 (by omega)
theorem t_rep {n L lc lp pb st P Q k len : Nat} {x2 x3 : Int32} {D R : zx_D} (hk3 : k ≤ 3) (J : zJ n lc lp pb st D R) (h : zE2 n L lc lp pb st D R) (S : zDs D R) (hQ : Q = P % 2 ^ pb) (hP : P < 400) (hk : zg_i D 7 7 = nI (4 + k)) (hl2 : 2 ≤ len) (hl : len ≤ 273) (h79 : zg_i D 7 9 = nI len) (hd : ∃ d, 1 ≤ d ∧ d ≤ P ∧ zg_l R 0 (13 + k) = nL d) : zTk n L lc lp pb P len D R (g_Mdl_step_k (nI P) x2 x3 D) (g_R_putRepeated (nI k) (nI len) (nI Q) R) := by
  have hst := J.hs
  have hpb := J.hp
  have hQ16 : Q < 16 := by
    have h1 : P % 2 ^ pb < 2 ^ pb := Nat.mod_lt _ (Nat.two_pow_pos pb)
    have h2 : 2 ^ pb ≤ 2 ^ 4 := Nat.pow_le_pow_right (by omega) hpb
    omega
  have hqC : nI P &&& ((zo_shl 1 (zg_i D 7 5)) - 1) = nI Q := by rw [J.pbC, y_mask (by omega) hpb, hQ]
  have fin : ∀ D1 R1, g_Mdl_codeKind_k (nI Q) D = some (nI (4 + k), D1) → g_R_putRepeated (nI k) (nI len) (nI Q) R = r_prep k (nI len) (nI Q) R1 → zE2 n L lc lp pb st D1 R1 → zH D D1 R R1 → zTk n L lc lp pb P len D R (g_Mdl_step_k (nI P) x2 x3 D) (g_R_putRepeated (nI k) (nI len) (nI Q) R) := by
    intro D1 R1 y1 y2 y3 y4
    rw [c_stepk (kd := 4 + k) (by omega) (by omega) hqC y1, c_tkkr, y2]
    obtain ⟨d, d1, d2, d3⟩ := hd
    exact t_repE hk3 hQ16 (J.h y4) y3 (S.h y4) y4 hl2 hl ((y4.c 7 9 (by omega) (by omega) (by omega)).trans h79) ⟨d, d1, d2, (y4.rl (13 + k) (by omega)).trans d3⟩
  have z1 : ¬ (1 : Int32) = 0 := by decide
  have hk' : k = 0 ∨ k = 1 ∨ k = 2 ∨ k = 3 := by omega
  rcases hk' with rfl | rfl | rfl | rfl
  · obtain ⟨D1, R1, R2, R3, R4, a1, b1, s1, b2, s2, b3, s3, b4, s4, c1, e1⟩ := pk_4 J hQ16 hk h
    have b1 : g_R_put (nI (zf (st * 16 + Q))) 1 R = some R1 := b1
    have b2 : g_R_put (nI (zf (384 + st))) 1 R1 = some R2 := b2
    have b3 : g_R_put (nI (zf (396 + st))) 0 R2 = some R3 := b3
    have b4 : g_R_put (nI (zf (192 + st * 16 + Q))) 1 R3 = some R4 := b4
    refine fin D1 R4 a1 ?_ c1 e1
    have n0 : ¬ ¬ nI 0 = 0 := fun t => t rfl
    simp only [g_R_putRepeated, J.stR, ixm hst hQ16, b1, s1, ixa hst, b2, s2, n0, ixz hst, b3, s3, ixl hst hQ16, b4, o_sb, ↓reduceIte]
    rfl
  · obtain ⟨D1, R1, R2, R3, R4, a1, b1, s1, b2, s2, b3, s3, b4, s4, c1, e1⟩ := pk_5 J hQ16 hk h
    have b1 : g_R_put (nI (zf (st * 16 + Q))) 1 R = some R1 := b1
    have b2 : g_R_put (nI (zf (384 + st))) 1 R1 = some R2 := b2
    have b3 : g_R_put (nI (zf (396 + st))) 1 R2 = some R3 := b3
    have b4 : g_R_put (nI (zf (408 + st))) 0 R3 = some R4 := b4
    refine fin D1 R4 a1 ?_ c1 e1
    have n0 : ¬ nI 1 = 0 := by decide
    have n1 : ¬ ¬ nI 1 = 1 := fun t => t rfl
    have n2 : nI 1 ≤ 1 := by decide
    simp only [g_R_putRepeated, J.stR, ixm hst hQ16, b1, s1, ixa hst, b2, s2, n0, n1, n2, ixz hst, b3, s3, ixo hst, b4, o_sb, ↓reduceIte, not_false_eq_true]
    rfl
  · obtain ⟨D1, R1, R2, R3, R4, R5, a1, b1, s1, b2, s2, b3, s3, b4, s4, b5, s5, c1, e1⟩ := pk_6 J hQ16 hk h
    have b1 : g_R_put (nI (zf (st * 16 + Q))) 1 R = some R1 := b1
    have b2 : g_R_put (nI (zf (384 + st))) 1 R1 = some R2 := b2
    have b3 : g_R_put (nI (zf (396 + st))) 1 R2 = some R3 := b3
    have b4 : g_R_put (nI (zf (408 + st))) 1 R3 = some R4 := b4
    refine fin D1 R5 a1 ?_ c1 e1
    have n0 : ¬ nI 2 = 0 := by decide
    have n1 : ¬ nI 2 = 1 := by decide
    have n2 : ¬ nI 2 ≤ 1 := by decide
    have n3 : nI 2 - 2 = nI 0 := rfl
    simp only [g_R_putRepeated, J.stR, ixm hst hQ16, b1, s1, ixa hst, b2, s2, n0, n1, n2, n3, ixz hst, b3, s3, ixo hst, b4, s4, ixt hst, b5, o_sb, ↓reduceIte, not_false_eq_true]
    rfl
  · obtain ⟨D1, R1, R2, R3, R4, R5, a1, b1, s1, b2, s2, b3, s3, b4, s4, b5, s5, c1, e1⟩ := pk_7 J hQ16 hk h
    have b1 : g_R_put (nI (zf (st * 16 + Q))) 1 R = some R1 := b1
    have b2 : g_R_put (nI (zf (384 + st))) 1 R1 = some R2 := b2
    have b3 : g_R_put (nI (zf (396 + st))) 1 R2 = some R3 := b3
    have b4 : g_R_put (nI (zf (408 + st))) 1 R3 = some R4 := b4
    refine fin D1 R5 a1 ?_ c1 e1
    have n0 : ¬ nI 3 = 0 := by decide
    have n1 : ¬ nI 3 = 1 := by decide
    have n2 : ¬ nI 3 ≤ 1 := by decide
    have n3 : nI 3 - 2 = nI 1 := rfl
    simp only [g_R_putRepeated, J.stR, ixm hst hQ16, b1, s1, ixa hst, b2, s2, n0, n1, n2, n3, ixz hst, b3, s3, ixo hst, b4, s4, ixt hst, b5, o_sb, ↓reduceIte, not_false_eq_true]
    rfl
