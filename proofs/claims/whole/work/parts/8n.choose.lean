abbrev zHt (D D' R R' : zx_D) : Prop := Nonempty ((∀ p k, p ≠ 6 → p ≠ 7 → p ≠ 20 → p ≠ 21 → ¬ (p = 17 ∧ 13 ≤ k) → zg_i D' p k = zg_i D p k) ∧ (∀ p k, p ≠ 7 → p ≠ 8 → p ≠ 20 → zg_l D' p k = zg_l D p k) ∧ (∀ k, k ≠ 12 → k ≠ 25 → k ≠ 27 → zg_i R' 0 k = zg_i R 0 k) ∧ (∀ p k, p ≠ 0 → p ≠ 5 → p ≠ 6 → zg_i R' p k = zg_i R p k) ∧ (∀ k, k < 13 ∨ 17 < k → zg_l R' 0 k = zg_l R 0 k))
theorem zHt.c {D D' R R' : zx_D} (h : zHt D D' R R') : ∀ p k, p ≠ 6 → p ≠ 7 → p ≠ 20 → p ≠ 21 → ¬ (p = 17 ∧ 13 ≤ k) → zg_i D' p k = zg_i D p k := h.elim fun q => q.1
theorem zHt.cl {D D' R R' : zx_D} (h : zHt D D' R R') : ∀ p k, p ≠ 7 → p ≠ 8 → p ≠ 20 → zg_l D' p k = zg_l D p k := h.elim fun q => q.2.1
theorem zHt.r {D D' R R' : zx_D} (h : zHt D D' R R') : ∀ k, k ≠ 12 → k ≠ 25 → k ≠ 27 → zg_i R' 0 k = zg_i R 0 k := h.elim fun q => q.2.2.1
theorem zHt.rp {D D' R R' : zx_D} (h : zHt D D' R R') : ∀ p k, p ≠ 0 → p ≠ 5 → p ≠ 6 → zg_i R' p k = zg_i R p k := h.elim fun q => q.2.2.2.1
theorem zHt.rl {D D' R R' : zx_D} (h : zHt D D' R R') : ∀ k, k < 13 ∨ 17 < k → zg_l R' 0 k = zg_l R 0 k := h.elim fun q => q.2.2.2.2
theorem zHt_rfl {D R : zx_D} : zHt D D R R := ⟨fun _ _ _ _ _ _ _ => Eq.refl _, fun _ _ _ _ _ => Eq.refl _, fun _ _ _ _ => Eq.refl _, fun _ _ _ _ _ => Eq.refl _, fun _ _ => Eq.refl _⟩
theorem zHt.trans {D D' D'' R R' R'' : zx_D} (h1 : zHt D D' R R') (h2 : zHt D' D'' R' R'') : zHt D D'' R R'' :=
  ⟨fun p k a1 a2 a3 a4 a5 => (h2.c p k a1 a2 a3 a4 a5).trans (h1.c p k a1 a2 a3 a4 a5), fun p k a1 a2 a3 => (h2.cl p k a1 a2 a3).trans (h1.cl p k a1 a2 a3), fun k a1 a2 a3 => (h2.r k a1 a2 a3).trans (h1.r k a1 a2 a3), fun p k a1 a2 a3 => (h2.rp p k a1 a2 a3).trans (h1.rp p k a1 a2 a3), fun k a1 => (h2.rl k a1).trans (h1.rl k a1)⟩
theorem zHs.t {D D' R R' : zx_D} (h : zHs D D' R R') : zHt D D' R R' := ⟨fun p k a1 a2 a3 a4 _ => h.c p k a1 a2 a3 a4, h.cl, h.r, h.rp, h.rl⟩
theorem zH.t {D D' R R' : zx_D} (h : zH D D' R R') : zHt D D' R R' := h.s.t
theorem zSr.t {D D' R : zx_D} (h : zSr D D') : zHt D D' R R := ⟨fun p k _ _ _ _ a => h.c p k a, fun p k _ _ _ => h.l p k, fun _ _ _ _ => Eq.refl _, fun _ _ _ _ _ => Eq.refl _, fun _ _ => Eq.refl _⟩
theorem zN.fr {n L sz r lc lp pb st : Nat} {D R D' : zx_D} (h : zN n L sz r lc lp pb st D R) (hc : ∀ p k, p ≠ 7 → p ≠ 17 → zg_i D' p k = zg_i D p k) (h7 : ∀ k, 2 ≤ k → k ≤ 5 → zg_i D' 7 k = zg_i D 7 k) (hl : ∀ p k, p ≠ 7 → zg_l D' p k = zg_l D p k) : zN n L sz r lc lp pb st D' R := by
  obtain ⟨Z, hM⟩ := h.md
  refine ⟨fun i hi => ?_, h.hn, ?_, h.bR, h.hL1, h.hL, ?_, h.mR, h.hs1, h.hs2, ?_, h.sR, fun i hi => ?_, fun i h1 h2 => ?_, h.hr1, h.hr2, ?_, h.rR, Z, zM_fr hM (fun k => hc 6 k (by omega) (by omega)) h7 (fun k _ _ => rfl) (fun k => rfl)⟩
  · rw [hc 2 i (by omega) (by omega)]
    exact h.pB i hi
  · rw [hc 20 2 (by omega) (by omega)]
    exact h.bC
  · rw [hc 20 5 (by omega) (by omega)]
    exact h.mC
  · rw [hc 20 4 (by omega) (by omega)]
    exact h.sC
  · rw [hc 21 i (by omega) (by omega)]
    exact h.low i hi
  · rw [hc 21 i (by omega) (by omega)]
    exact h.zer i h1 h2
  · rw [hl 20 1 (by omega)]
    exact h.rC
abbrev zCh (D D' : zx_D) : Prop := Nonempty ((∀ p k, ¬ (p = 7 ∧ 7 ≤ k) → zg_i D' p k = zg_i D p k) ∧ (∀ p k, p ≠ 7 → zg_l D' p k = zg_l D p k))
theorem zCh.c {D D' : zx_D} (h : zCh D D') : ∀ p k, ¬ (p = 7 ∧ 7 ≤ k) → zg_i D' p k = zg_i D p k := h.elim fun q => q.1
theorem zCh.l {D D' : zx_D} (h : zCh D D') : ∀ p k, p ≠ 7 → zg_l D' p k = zg_l D p k := h.elim fun q => q.2
theorem r_one (x8 : Int32) (D : zx_D) : ((g_R_put ((6144 + (16 * (zg_i D 0 12))) + x8) 1 D).bind fun q15 => (g_R_put (6528 + (zg_i q15 0 12)) 1 q15).bind fun q16 => (g_R_put (6540 + (zg_i q16 0 12)) 0 q16).bind fun q17 => (g_R_put ((6336 + (16 * (zg_i q17 0 12))) + x8) 0 q17).bind fun q18 => if 7 ≤ zg_i q18 0 12 then some ((1 : Int32), zp_i q18 0 12 11) else some (1, zp_i q18 0 12 9)) = ((g_R_put ((6144 + (16 * (zg_i D 0 12))) + x8) 1 D).bind fun q15 => (g_R_put (6528 + (zg_i q15 0 12)) 1 q15).bind fun q16 => (g_R_put (6540 + (zg_i q16 0 12)) 0 q16).bind fun q17 => (g_R_put ((6336 + (16 * (zg_i q17 0 12))) + x8) 0 q17).bind fun q18 => if 7 ≤ zg_i q18 0 12 then some (zp_i q18 0 12 11) else some (zp_i q18 0 12 9)).bind fun q => some (1, q) := by
  rw [Option.bind_assoc]
  congr 1
  funext q15
  rw [Option.bind_assoc]
  congr 1
  funext q16
  rw [Option.bind_assoc]
  congr 1
  funext q17
  rw [Option.bind_assoc]
  congr 1
  funext q18
  split <;> rfl
theorem t_76 {n L sz r lc lp pb st P F Q most dst la mt d0 ob : Nat} {E R : zx_D} (h : zN n L sz r lc lp pb st E R) (S : zDs E R) (hds : 7 ≤ st → d0 ≤ P) (hd0 : 1 ≤ d0 ∧ d0 < 2 ^ 34 ∧ zg_l E 8 0 = nL d0 ∧ zg_l R 0 13 = nL d0) (hPF : P + F ≤ n) (hF : 1 ≤ F) (hF2 : F ≤ 273) (hQ : Q = P % 2 ^ pb) (hmo : most ≤ F) (h13 : zg_i E 17 13 = nI most) (h14 : 1 ≤ most → zg_i E 17 14 = nI dst ∧ 1 ≤ dst ∧ dst ≤ P) (ho : ob < 256) (h78 : zg_i E 7 8 = nI ob) (hob : zg_i R 1 P = nI ob) (hl : la < 256) (hla : P = 0 → la = 0) (hla2 : 0 < P → zg_i R 1 (P - 1) = nI la) (hm : mt < 256) (hmt : d0 ≤ P → zg_i R 1 (P - d0) = nI mt) :
    ∃ len D0 oR, 1 ≤ len ∧ len ≤ F ∧ g_Pkg_choose_76 (nI P) (nI F) E = some D0 ∧ g_R_putToken_182 (nI P) (nI F) (nI most) (nI dst) (nI Q) R = oR.bind (fun q => some (nI len, q)) ∧ zCh E D0 ∧ zTk n L lc lp pb P len D0 R (g_Mdl_step_k (nI P) (nI la) (nI mt) D0) oR := by
  have hn := h.hn
  have J := h.j
  have kc : 2 ≤ most → ∃ len D0 oR, 1 ≤ len ∧ len ≤ F ∧ g_Pkg_choose_102 E = some D0 ∧ ((g_R_putCopy (nI dst) (nI most) (nI Q) R).bind fun q => some (nI most, q)) = oR.bind (fun q => some (nI len, q)) ∧ zCh E D0 ∧ zTk n L lc lp pb P len D0 R (g_Mdl_step_k (nI P) (nI la) (nI mt) D0) oR := by
    intro t
    obtain ⟨e14, e1, e2⟩ := h14 (by omega)
    refine ⟨most, zp_l (zp_i (zp_i E 7 7 2) 7 9 (nI most)) 7 10 (nL dst), _, by omega, hmo, ?_, rfl, ⟨fun p k hp => ?_, fun p k hp => ?_⟩, ?_⟩
    · rw [g_Pkg_choose_102, h13, e14, v_of (by omega)]
    · show zg_i (zp_i (zp_i E 7 7 2) 7 9 (nI most)) p k = _
      rw [y_gi, if_neg (by omega), y_gi, if_neg (by omega)]
    · rw [y_gl, if_neg (by omega)]
      rfl
    · have hN : zN n L sz r lc lp pb st (zp_l (zp_i (zp_i E 7 7 2) 7 9 (nI most)) 7 10 (nL dst)) R := by
        refine h.fr (fun p k hp _ => ?_) (fun k k1 k2 => ?_) (fun p k hp => ?_)
        · show zg_i (zp_i (zp_i E 7 7 2) 7 9 (nI most)) p k = _
          rw [y_gi, if_neg (by omega), y_gi, if_neg (by omega)]
        · show zg_i (zp_i (zp_i E 7 7 2) 7 9 (nI most)) 7 k = _
          rw [y_gi, if_neg (by omega), y_gi, if_neg (by omega)]
        · rw [y_gl, if_neg (by omega)]
          rfl
      exact t_copy hN.j (Or.inl ⟨sz, r, hN⟩) (S.fr (fun k => by rw [y_gl, if_neg (by omega)]; rfl) (fun _ _ _ => rfl)) hQ (by omega) rfl t (by omega) rfl e1 e2 rfl
  have kb : ∃ len D0 oR, 1 ≤ len ∧ len ≤ F ∧ g_Pkg_choose_136 (nI P) (nI F) E = some D0 ∧ g_R_putToken_215 (nI P) (nI F) (nI Q) R = oR.bind (fun q => some (nI len, q)) ∧ zCh E D0 ∧ zTk n L lc lp pb P len D0 R (g_Mdl_step_k (nI P) (nI la) (nI mt) D0) oR := by
    obtain ⟨f1, f2, f3, f4⟩ := hd0
    obtain ⟨s1, s2⟩ := s_same (D := E) (R := R) (d := d0) h.pB hn hPF f2
    have e0 : g_Mdl_distanceOf 0 E = some (nL d0) := by
      have := c_distOf (D := E) (k := 0) (by omega)
      rw [f3] at this
      exact this
    have hz := za_le (fun q => zg_i R 1 q) P F d0
    rw [g_Pkg_choose_136, g_R_putToken_215, e0, o_sb, s1, o_sb, f4, s2, o_sb]
    by_cases u : za (fun q => zg_i R 1 q) P F d0 = 1
    · have u0 : d0 ≤ P := by
        unfold za at u
        by_cases t : d0 ≤ P
        · exact t
        · rw [if_neg t] at u
          omega
      have l : ¬ ¬ nI (za (fun q => zg_i R 1 q) P F d0) = 1 := fun q => q (by rw [u]; rfl)
      rw [if_neg l, if_neg l]
      have hN : zN n L sz r lc lp pb st (zp_i E 7 7 3) R := h.fr (fun p k hp _ => by rw [y_gi, if_neg (by omega)]) (fun k k1 k2 => by rw [y_gi, if_neg (by omega)]) (fun p k hp => rfl)
      exact ⟨1, zp_i E 7 7 3, _, by omega, hF, rfl, r_one (nI Q) R, ⟨fun p k hp => by rw [y_gi, if_neg (by omega)], fun p k hp => rfl⟩, t_single hN.j (Or.inl ⟨sz, r, hN⟩) (S.fr (fun k => rfl) (fun _ _ _ => rfl)) hQ (by omega) rfl f1 u0 f4⟩
    · have l : ¬ nI (za (fun q => zg_i R 1 q) P F d0) = 1 := fun q => u ((y_eq (b := 1) (by omega) (by omega)).mp q)
      rw [if_pos l, if_pos l]
      have hN : zN n L sz r lc lp pb st (zp_i E 7 7 1) R := h.fr (fun p k hp _ => by rw [y_gi, if_neg (by omega)]) (fun k k1 k2 => by rw [y_gi, if_neg (by omega)]) (fun p k hp => rfl)
      exact ⟨1, zp_i E 7 7 1, _, by omega, hF, rfl, rfl, ⟨fun p k hp => by rw [y_gi, if_neg (by omega)], fun p k hp => rfl⟩, t_lit hN.j (Or.inl ⟨sz, r, hN⟩) (S.fr (fun k => rfl) (fun _ _ _ => rfl)) hQ (by omega) rfl ho ((y_gi E 7 7 7 8 1).trans (by rw [if_neg (by omega)]; exact h78)) hob hl hla hla2 hm (fun t => ⟨d0, f1, hds t, f4, hmt (hds t)⟩)⟩
  rw [g_Pkg_choose_76, g_R_putToken_182, h13]
  by_cases t3 : 3 ≤ most
  · rw [if_pos (show (3 : Int32) ≤ nI most from (y_le (a := 3) (by omega) (by omega)).mpr t3), if_pos (show (2 : Int32) < nI most from (y_lt (a := 2) (by omega) (by omega)).mpr (by omega))]
    exact kc (by omega)
  · rw [if_neg (show ¬ (3 : Int32) ≤ nI most from fun q => t3 ((y_le (a := 3) (by omega) (by omega)).mp q)), if_neg (show ¬ (2 : Int32) < nI most from fun q => by have := (y_lt (a := 2) (by omega) (by omega)).mp q; omega)]
    by_cases t2 : most = 2
    · have l : ¬ ¬ nI most = 2 := fun q => q (by rw [t2]; rfl)
      rw [if_neg l, if_neg l]
      obtain ⟨e14, e1, e2⟩ := h14 (by omega)
      rw [e14]
      by_cases t : (128 : Int32) < nI dst
      · rw [if_pos t, if_pos t]
        exact kb
      · rw [if_neg t, if_neg t]
        exact kc (by omega)
    · have l : ¬ nI most = 2 := fun q => t2 ((y_eq (b := 2) (by omega) (by omega)).mp q)
      rw [if_pos l, if_pos l]
      exact kb
theorem t_tok {n L sz r lc lp pb st P T : Nat} {D R : zx_D} (h : zN n L sz r lc lp pb st D R) (S : zDs D R) (hds : 7 ≤ st → ∃ d, 1 ≤ d ∧ d ≤ P ∧ zg_l R 0 13 = nL d) (hPT : P < T) (hT : T ≤ n) :
    ∃ len D0 D' R' q7 q8 q9, 1 ≤ len ∧ len ≤ T - P ∧ g_Pkg_choose (nI P) (if 273 < nI T - nI P then 273 else nI T - nI P) D = some D0 ∧ g_Mdl_distanceOf 0 D0 = some q7 ∧ g_Row_byteBack_1 (nI P) q7 D0 = some q8 ∧ g_Row_byteBack_1 (nI P) 1 D0 = some q9 ∧ g_Mdl_step_k (nI P) q9 q8 D0 = some D' ∧ g_R_putToken (nI P) (nI (T - P)) R = some (nI len, R') ∧ zg_i D' 7 9 = nI len ∧ zHt D D' R R' ∧ ((∃ st', (∃ sz r, zN n L sz r lc lp pb st' D' R') ∧ zDs D' R' ∧ (7 ≤ st' → ∃ d, 1 ≤ d ∧ d ≤ P + len ∧ zg_l R' 0 13 = nL d)) ∨ zL D' R') := by
  have hn := h.hn
  obtain ⟨F, hF⟩ : ∃ F, F = if 273 < T - P then 273 else T - P := ⟨_, rfl⟩
  have hF1 : 1 ≤ F ∧ F ≤ 273 ∧ F ≤ T - P := by
    rw [hF]
    split <;> omega
  have eC : (if 273 < nI T - nI P then 273 else nI T - nI P) = nI F := by
    rw [y_sub (by omega), hF]
    by_cases t : 273 < T - P
    · rw [if_pos t, if_pos (show (273 : Int32) < nI (T - P) from (y_lt (a := 273) (by omega) (by omega)).mpr t)]
      rfl
    · rw [if_neg t, if_neg (show ¬ (273 : Int32) < nI (T - P) from fun q => t ((y_lt (a := 273) (by omega) (by omega)).mp q))]
  have eR : ((if 273 ≤ nI (T - P) then some 273 else some (nI (T - P))) : Option Int32) = some (nI F) := by
    rw [hF]
    by_cases t : 273 ≤ T - P
    · rw [if_pos (show (273 : Int32) ≤ nI (T - P) from (y_le (a := 273) (by omega) (by omega)).mpr t)]
      by_cases t' : 273 < T - P
      · rw [if_pos t']
        rfl
      · rw [if_neg t', show T - P = 273 by omega]
        rfl
    · rw [if_neg (show ¬ (273 : Int32) ≤ nI (T - P) from fun q => t ((y_le (a := 273) (by omega) (by omega)).mp q)), if_neg (by omega)]
  obtain ⟨dd, hD⟩ := s_dist4 S
  obtain ⟨D2, most, dst, ag, a1, a2, a3, a4, a5, D3, b1, b2, b3, b4, b5, b6, b7⟩ := s_search (D := D) (R := R) (P := P) (F := F) hn (by omega) h.pB hD
  obtain ⟨w, hw⟩ : ∃ w, w = za (fun q => zg_i R 1 q) P F (dd ag) := ⟨_, rfl⟩
  have hwF : w ≤ F := by
    rw [hw]
    exact za_le _ _ _ _
  have hwP : 1 ≤ w → dd ag ≤ P := by
    intro t
    unfold za at hw
    by_cases u : dd ag ≤ P
    · exact u
    · rw [if_neg u] at hw
      omega
  rw [← hw] at b5
  obtain ⟨Q, hQ⟩ : ∃ Q, Q = P % 2 ^ pb := ⟨_, rfl⟩
  have J := h.j
  have eQ : g_R_low4 (nI P) R = some (nI Q) := by rw [g_R_low4, J.pbR, y_mask (by omega) J.hp, hQ]
  obtain ⟨ob, ho, hob⟩ := (h.pB P (by omega)).2
  have hoC : zg_i D3 2 P = nI ob := (b7.c 2 P (by omega)).trans ((h.pB P (by omega)).1.trans hob)
  obtain ⟨la, hl, hla, hla2, hlb⟩ : ∃ la, la < 256 ∧ (P = 0 → la = 0) ∧ (0 < P → zg_i R 1 (P - 1) = nI la) ∧ ∀ X, (∀ i, i < n → zg_i X 2 i = zg_i R 1 i) → g_Row_byteBack_1 (nI P) 1 X = some (nI la) := by
    by_cases t : P = 0
    · refine ⟨0, by omega, fun _ => rfl, fun q => by omega, fun X _ => ?_⟩
      rw [t]
      rfl
    · obtain ⟨la, q1, q2⟩ := (h.pB (P - 1) (by omega)).2
      refine ⟨la, q1, fun q => by omega, fun _ => q2, fun X hX => ?_⟩
      rw [g_Row_byteBack_1, if_neg (by decide), v_of (by omega), if_neg (show ¬ nL P < 1 from fun q => by have := (v_lt (b := 1) (by omega) (by omega)).mp q; omega), if_pos (show nI P ≤ 400 from (y_le (b := 400) (by omega) (by omega)).mpr (by omega)), show nI P - (1 : Int64).toInt32 = nI (P - 1) from y_sub (b := 1) (by omega), if_pos (y_in (by omega) (by omega)), y_zn (by omega), hX (P - 1) (by omega), q2]
  obtain ⟨f1, f2, f3, f4⟩ := hD 0 (by omega)
  have f4 : zg_l R 0 13 = nL (dd 0) := f4
  obtain ⟨mt, hm, hmt, hmb⟩ : ∃ mt, mt < 256 ∧ (dd 0 ≤ P → zg_i R 1 (P - dd 0) = nI mt) ∧ ∀ X, (∀ i, i < n → zg_i X 2 i = zg_i R 1 i) → g_Row_byteBack_1 (nI P) (nL (dd 0)) X = some (nI mt) := by
    have l1 : ¬ nL (dd 0) < 1 := fun q => by have := (v_lt (b := 1) (by omega) (by omega)).mp q; omega
    by_cases t : dd 0 ≤ P
    · obtain ⟨mt, q1, q2⟩ := (h.pB (P - dd 0) (by omega)).2
      refine ⟨mt, q1, fun _ => q2, fun X hX => ?_⟩
      rw [g_Row_byteBack_1, if_neg l1, v_of (by omega), if_neg (fun q => by have := (v_lt (by omega) (by omega)).mp q; omega), if_pos (show nI P ≤ 400 from (y_le (b := 400) (by omega) (by omega)).mpr (by omega)), v_to, y_sub t, if_pos (y_in (by omega) (by omega)), y_zn (by omega), hX (P - dd 0) (by omega), q2]
    · refine ⟨0, by omega, fun q => by omega, fun X _ => ?_⟩
      rw [g_Row_byteBack_1, if_neg l1, v_of (by omega), if_pos ((v_lt (by omega) (by omega)).mpr (by omega))]
      rfl
  have hds' : 7 ≤ st → dd 0 ≤ P := by
    intro t
    obtain ⟨d, _, d2, d3⟩ := hds t
    rw [f4] at d3
    have := (v_eq (by omega) (by omega)).mp d3
    omega
  have hE : zN n L sz r lc lp pb st (zp_i D3 7 8 (nI ob)) R := h.fr (fun p k h1 h2 => by rw [y_gi, if_neg (by omega)]; exact b7.c p k (by omega)) (fun k k1 k2 => by rw [y_gi, if_neg (by omega)]; exact b7.c 7 k (by omega)) (fun p k _ => b7.l p k)
  have SE : zDs (zp_i D3 7 8 (nI ob)) R := S.fr (fun k => b7.l 8 k) (fun _ _ _ => rfl)
  have fin : ∀ len D0 oR, 1 ≤ len → len ≤ F → g_Pkg_choose (nI P) (nI F) D = some D0 → g_R_putToken (nI P) (nI (T - P)) R = oR.bind (fun q => some (nI len, q)) → zCh (zp_i D3 7 8 (nI ob)) D0 → zTk n L lc lp pb P len D0 R (g_Mdl_step_k (nI P) (nI la) (nI mt) D0) oR → ∃ len D0 D' R' q7 q8 q9, 1 ≤ len ∧ len ≤ T - P ∧ g_Pkg_choose (nI P) (nI F) D = some D0 ∧ g_Mdl_distanceOf 0 D0 = some q7 ∧ g_Row_byteBack_1 (nI P) q7 D0 = some q8 ∧ g_Row_byteBack_1 (nI P) 1 D0 = some q9 ∧ g_Mdl_step_k (nI P) q9 q8 D0 = some D' ∧ g_R_putToken (nI P) (nI (T - P)) R = some (nI len, R') ∧ zg_i D' 7 9 = nI len ∧ zHt D D' R R' ∧ ((∃ st', (∃ sz r, zN n L sz r lc lp pb st' D' R') ∧ zDs D' R' ∧ (7 ≤ st' → ∃ d, 1 ≤ d ∧ d ≤ P + len ∧ zg_l R' 0 13 = nL d)) ∨ zL D' R') := by
    intro len D0 oR k1 k2 k3 k4 k5 k6
    obtain ⟨D', R', c1, c2, c3, c4, c5⟩ := k6
    have g2 : ∀ i, i < n → zg_i D0 2 i = zg_i R 1 i := fun i hi => by
      rw [k5.c 2 i (by omega), y_gi, if_neg (by omega), b7.c 2 i (by omega)]
      exact (h.pB i hi).1
    have g8 : g_Mdl_distanceOf 0 D0 = some (nL (dd 0)) := by
      have := c_distOf (D := D0) (k := 0) (by omega)
      rw [k5.l 8 0 (by omega)] at this
      refine this.trans ?_
      show some (zg_l D3 8 0) = _
      rw [b7.l 8 0, f3]
    have w0 : zHt (zp_i D3 7 8 (nI ob)) D0 R R := ⟨fun p k _ a2 _ _ _ => k5.c p k (by omega), fun p k a1 _ _ => k5.l p k a1, fun _ _ _ _ => Eq.refl _, fun _ _ _ _ _ => Eq.refl _, fun _ _ => Eq.refl _⟩
    have w1 : zHt D3 (zp_i D3 7 8 (nI ob)) R R := ⟨fun p k _ a2 _ _ _ => by rw [y_gi, if_neg (by omega)], fun p k _ _ _ => rfl, fun _ _ _ _ => Eq.refl _, fun _ _ _ _ _ => Eq.refl _, fun _ _ => Eq.refl _⟩
    have w2 : zHt D D3 R R := b7.t
    exact ⟨len, D0, D', R', nL (dd 0), nI mt, nI la, k1, by omega, k3, g8, hmb D0 g2, hlb D0 g2, c1, by rw [k4, c2, o_sb], c3, ((w2.trans w1).trans w0).trans c4.t, c5⟩
  rw [eC]
  have s2 := (s_same (D := D) (R := R) (d := dd ag) h.pB hn (show P + F ≤ n by omega) (hD ag a5).2.1).2
  rw [← hw] at s2
  have uC : g_Pkg_choose (nI P) (nI F) D = if nI w < 2 then g_Pkg_choose_76 (nI P) (nI F) (zp_i D3 7 8 (nI ob)) else if nI w + 1 < nI most then g_Pkg_choose_76 (nI P) (nI F) (zp_i D3 7 8 (nI ob)) else some (zp_i (zp_i (zp_i D3 7 8 (nI ob)) 7 7 (4 + nI ag)) 7 9 (nI w)) := by
    rw [g_Pkg_choose, a1, o_sb, b1, o_sb, if_pos (y_in (by omega) (by omega)), y_zn (by omega), b5, b3, b6, hoC]
  have uR : g_R_putToken (nI P) (nI (T - P)) R = if nI w ≤ 1 then g_R_putToken_182 (nI P) (nI F) (nI most) (nI dst) (nI Q) R else if nI w + 1 < nI most then g_R_putToken_182 (nI P) (nI F) (nI most) (nI dst) (nI Q) R else (g_R_putRepeated (nI ag) (nI w) (nI Q) R).bind fun q20 => some (nI w, q20) := by
    rw [g_R_putToken, eR, o_sb, a2, o_sb]
    show ((g_R_putToken_85 (nI P) (nI F) (nI most) (nI dst) R 10000 0 1).bind _) = _
    rw [b2, o_sb, r_distOf a5, o_sb, (hD ag a5).2.2.2, s2, o_sb, eQ, o_sb]
  obtain ⟨len, D0, oR, k1, k2, k3, k4, k5, k6⟩ := t_76 (F := F) (Q := Q) (most := most) (dst := dst) (la := la) (mt := mt) hE SE hds' ⟨f1, f2, (b7.l 8 0).trans f3, f4⟩ (by omega) hF1.1 hF1.2.1 hQ a3 ((y_gi D3 7 8 17 13 _).trans (by rw [if_neg (by omega)]; exact b3)) (fun t => ⟨(y_gi D3 7 8 17 14 _).trans (by rw [if_neg (by omega)]; exact b4 t), a4 t⟩) ho rfl hob hl hla hla2 hm hmt
  by_cases u1 : w < 2
  · rw [if_pos (show nI w < 2 from (y_lt (b := 2) (by omega) (by omega)).mpr u1)] at uC
    rw [if_pos (show nI w ≤ 1 from (y_le (b := 1) (by omega) (by omega)).mpr (by omega))] at uR
    exact fin len D0 oR k1 k2 (uC.trans k3) (uR.trans k4) k5 k6
  · rw [if_neg (show ¬ nI w < 2 from fun q => u1 ((y_lt (b := 2) (by omega) (by omega)).mp q))] at uC
    rw [if_neg (show ¬ nI w ≤ 1 from fun q => by have := (y_le (b := 1) (by omega) (by omega)).mp q; omega)] at uR
    by_cases u2 : nI w + 1 < nI most
    · rw [if_pos u2] at uC uR
      exact fin len D0 oR k1 k2 (uC.trans k3) (uR.trans k4) k5 k6
    · rw [if_neg u2] at uC uR
      have e4 : (4 : Int32) + nI ag = nI (4 + ag) := y_add 4 ag
      rw [e4] at uC
      have hN : zN n L sz r lc lp pb st (zp_i (zp_i (zp_i D3 7 8 (nI ob)) 7 7 (nI (4 + ag))) 7 9 (nI w)) R := hE.fr (fun p k hp _ => by rw [y_gi, if_neg (by omega), y_gi, if_neg (by omega)]) (fun k k1 k2 => by rw [y_gi, if_neg (by omega), y_gi, if_neg (by omega)]) (fun p k hp => rfl)
      refine fin w (zp_i (zp_i (zp_i D3 7 8 (nI ob)) 7 7 (nI (4 + ag))) 7 9 (nI w)) _ (by omega) hwF uC uR ⟨fun p k hp => by rw [y_gi, if_neg (by omega), y_gi, if_neg (by omega)], fun p k hp => rfl⟩ ?_
      exact t_rep a5 hN.j (Or.inl ⟨sz, r, hN⟩) (SE.fr (fun k => rfl) (fun _ _ _ => rfl)) hQ (by omega) rfl (by omega) (by omega) rfl ⟨dd ag, (hD ag a5).1, hwP (by omega), (hD ag a5).2.2.2⟩
