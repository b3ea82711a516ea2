abbrev zK (a f g U : Nat) (D R : zx_D) : Prop := Nonempty ((zg_i R 0 29 = 0) ∧ (zg_i D 12 3 = nI a) ∧ (zg_i R 0 28 = nI a) ∧ (zg_i D 9 12 = nI f) ∧ (zg_i R 0 23 = nI f) ∧ (zg_i R 0 21 = nI (U - g)) ∧ (f ≤ g) ∧ (g ≤ U) ∧ (U ≤ 400))
theorem zK.f0 {a f g U : Nat} {D R : zx_D} (h : zK a f g U D R) : zg_i R 0 29 = 0 := h.elim fun q => q.1
theorem zK.aC {a f g U : Nat} {D R : zx_D} (h : zK a f g U D R) : zg_i D 12 3 = nI a := h.elim fun q => q.2.1
theorem zK.aR {a f g U : Nat} {D R : zx_D} (h : zK a f g U D R) : zg_i R 0 28 = nI a := h.elim fun q => q.2.2.1
theorem zK.fC {a f g U : Nat} {D R : zx_D} (h : zK a f g U D R) : zg_i D 9 12 = nI f := h.elim fun q => q.2.2.2.1
theorem zK.fR {a f g U : Nat} {D R : zx_D} (h : zK a f g U D R) : zg_i R 0 23 = nI f := h.elim fun q => q.2.2.2.2.1
theorem zK.lf {a f g U : Nat} {D R : zx_D} (h : zK a f g U D R) : zg_i R 0 21 = nI (U - g) := h.elim fun q => q.2.2.2.2.2.1
theorem zK.fg {a f g U : Nat} {D R : zx_D} (h : zK a f g U D R) : f ≤ g := h.elim fun q => q.2.2.2.2.2.2.1
theorem zK.gU {a f g U : Nat} {D R : zx_D} (h : zK a f g U D R) : g ≤ U := h.elim fun q => q.2.2.2.2.2.2.2.1
theorem zK.U4 {a f g U : Nat} {D R : zx_D} (h : zK a f g U D R) : U ≤ 400 := h.elim fun q => q.2.2.2.2.2.2.2.2
theorem zK.w {a f g g' U : Nat} {D R D' R' : zx_D} (h : zK a f g U D R) (w : zW D D' R R') (hl : zg_i R' 0 21 = nI (U - g')) (h1 : g ≤ g') (h2 : g' ≤ U) : zK a f g' U D' R' :=
  ⟨(w.r 29 (by omega) (by omega) (by omega) (by omega) (by omega)).trans h.f0, (w.cu 3).trans h.aC, (w.r 28 (by omega) (by omega) (by omega) (by omega) (by omega)).trans h.aR, (w.c 12).trans h.fC, (w.r 23 (by omega) (by omega) (by omega) (by omega) (by omega)).trans h.fR, hl, Nat.le_trans h.fg h1, h2, h.U4⟩
theorem zK.q {a f g U : Nat} {D R D' R' : zx_D} (h : zK a f g U D R) (w : zQ D D' R R') : zK a f g U D' R' := h.w w.w ((w.r 21 (by omega) (by omega)).trans h.lf) (Nat.le_refl _) h.gU
def zT (g r c : Nat) (Z : Nat → Nat) : Prop := tot zKL Z + tot zFs Z ≤ g ∧ (c < r ∨ ∃ N S E s, zBk N S E s r c ∧ E ≤ 26 ∧ ((N = 0 ∧ S = 0) ∨ (N ≤ 15 ∧ S + tot zKL Z ≤ 527 ∧ 128 ≤ g)))
abbrev zDs (D R : zx_D) : Prop := Nonempty ((zE D R 0 13) ∧ (zE D R 1 14) ∧ (zE D R 2 15) ∧ (zE D R 3 16))
theorem zDs.d0 {D R : zx_D} (h : zDs D R) : zE D R 0 13 := h.elim fun q => q.1
theorem zDs.d1 {D R : zx_D} (h : zDs D R) : zE D R 1 14 := h.elim fun q => q.2.1
theorem zDs.d2 {D R : zx_D} (h : zDs D R) : zE D R 2 15 := h.elim fun q => q.2.2.1
theorem zDs.d3 {D R : zx_D} (h : zDs D R) : zE D R 3 16 := h.elim fun q => q.2.2.2
theorem zDs.fr {D R D' R' : zx_D} (h : zDs D R) (h1 : ∀ k, zg_l D' 8 k = zg_l D 8 k) (h2 : ∀ k, 13 ≤ k → k ≤ 16 → zg_l R' 0 k = zg_l R 0 k) : zDs D' R' := by
  obtain ⟨⟨a, a1, a2, a3, a4⟩, ⟨b, b1, b2, b3, b4⟩, ⟨c, c1, c2, c3, c4⟩, ⟨d, e1, e2, e3, e4⟩⟩ := h
  exact ⟨⟨a, a1, a2, (h1 0).trans a3, (h2 13 (by omega) (by omega)).trans a4⟩, ⟨b, b1, b2, (h1 1).trans b3, (h2 14 (by omega) (by omega)).trans b4⟩, ⟨c, c1, c2, (h1 2).trans c3, (h2 15 (by omega) (by omega)).trans c4⟩, ⟨d, e1, e2, (h1 3).trans e3, (h2 16 (by omega) (by omega)).trans e4⟩⟩
theorem zDs.q {D R D' R' : zx_D} (h : zDs D R) (w : zQ D D' R R') : zDs D' R' := h.fr (fun k => w.cl 8 k (by omega)) (fun k _ _ => w.rl k (by omega) (by omega) (by omega) (by omega))
abbrev zP (n m g b r c x e lc lp pb st a f U : Nat) (Z : Nat → Nat) (D R : zx_D) : Prop := Nonempty ((zA n m g b r c x e lc lp pb st Z D R) ∧ (zK a f g U D R) ∧ (zT g r c Z) ∧ (zDs D R) ∧ (7 ≤ st → ∃ d, 1 ≤ d ∧ d + f ≤ g ∧ zg_l R 0 13 = nL d))
theorem zP.A {n m g b r c x e lc lp pb st a f U : Nat} {Z : Nat → Nat} {D R : zx_D} (h : zP n m g b r c x e lc lp pb st a f U Z D R) : zA n m g b r c x e lc lp pb st Z D R := h.elim fun q => q.1
theorem zP.K {n m g b r c x e lc lp pb st a f U : Nat} {Z : Nat → Nat} {D R : zx_D} (h : zP n m g b r c x e lc lp pb st a f U Z D R) : zK a f g U D R := h.elim fun q => q.2.1
theorem zP.T {n m g b r c x e lc lp pb st a f U : Nat} {Z : Nat → Nat} {D R : zx_D} (h : zP n m g b r c x e lc lp pb st a f U Z D R) : zT g r c Z := h.elim fun q => q.2.2.1
theorem zP.S {n m g b r c x e lc lp pb st a f U : Nat} {Z : Nat → Nat} {D R : zx_D} (h : zP n m g b r c x e lc lp pb st a f U Z D R) : zDs D R := h.elim fun q => q.2.2.2.1
theorem zP.ds {n m g b r c x e lc lp pb st a f U : Nat} {Z : Nat → Nat} {D R : zx_D} (h : zP n m g b r c x e lc lp pb st a f U Z D R) : 7 ≤ st → ∃ d, 1 ≤ d ∧ d + f ≤ g ∧ zg_l R 0 13 = nL d := h.elim fun q => q.2.2.2.2
def zStp (n m g b e lc lp pb a f U : Nat) (D R : zx_D) (oC oR : Option zx_D) : Prop :=
  (∃ len kd r' c' x' st' Z' D1 D2 R', 1 ≤ len ∧ 1 ≤ kd ∧ kd ≤ 9 ∧ oC = some D1 ∧ zg_i D1 5 2 = 0 ∧ g_Unp_giveStep (nI (g - f)) (nI U) D1 = some (1, D2) ∧ zg_i D2 7 7 = nI kd ∧ oR = some R' ∧ zP n m (g + len) b r' c' x' e lc lp pb st' a f U Z' (zp_i D2 14 kd (zg_i D2 14 kd + 1)) R' ∧ zW D (zp_i D2 14 kd (zg_i D2 14 kd + 1)) R R') ∨
  (∃ D1 D2 R', oC = some D1 ∧ ((¬ zg_i D1 5 2 = 0 ∧ D2 = D1) ∨ (zg_i D1 5 2 = 0 ∧ g_Unp_giveStep (nI (g - f)) (nI U) D1 = some (0, D2))) ∧ oR = some R' ∧ ¬ zg_i R' 0 22 = 0 ∧ zV n m g b D2 R' ∧ zW D D2 R R')
theorem zStp.w {n m g b e lc lp pb a f U : Nat} {D R D0 R0 : zx_D} {oC oR : Option zx_D} (h : zStp n m g b e lc lp pb a f U D R oC oR) (w : zW D0 D R0 R) : zStp n m g b e lc lp pb a f U D0 R0 oC oR := by
  rcases h with ⟨len, kd, r', c', x', st', Z', D1, D2, R', h1, h2, h3, h4, h5, h6, h7, h8, h9, h10⟩ | ⟨D1, D2, R', h1, h2, h3, h4, h5, h6⟩
  · exact Or.inl ⟨len, kd, r', c', x', st', Z', D1, D2, R', h1, h2, h3, h4, h5, h6, h7, h8, h9, w.trans h10⟩
  · exact Or.inr ⟨D1, D2, R', h1, h2, h3, h4, h5, w.trans h6⟩
theorem zStp.x {n m g b e lc lp pb a f U : Nat} {D R D1 R1 : zx_D} {oC oR : Option zx_D} (hC : oC = some D1) (hR : oR = some R1) (h : zX n m g b D1 R1) (w : zW D D1 R R1) : zStp n m g b e lc lp pb a f U D R oC oR :=
  Or.inr ⟨D1, D1, R1, hC, Or.inl ⟨h.bC, rfl⟩, hR, h.bR, h.v, w⟩
theorem k_back {n m g b r c x e lc lp pb st len d a f U kd : Nat} {Z : Nat → Nat} {D R : zx_D} (h : zA n m g b r c x e lc lp pb st Z D R) (K : zK a f g U D R) (S : zDs D R) (hd : 1 ≤ d) (hd2 : d < 2 ^ 34) (dC : zg_l D 8 0 = nL d) (dR : zg_l R 0 13 = nL d) (hl1 : 1 ≤ len) (hl : len ≤ 273) (lC : zg_i D 7 9 = nI len) (hk1 : 2 ≤ kd) (hk : kd ≤ 7) (kC : zg_i D 7 7 = nI kd) (hT : d + f ≤ g → g + len ≤ U → zT (g + len) r c Z) : zStp n m g b e lc lp pb a f U D R (some D) (g_R_back (nI len) (nI kd) R) := by
  rcases s_back h K.fg K.gU K.U4 K.fR K.lf hd hd2 dC dR hl1 hl lC hk1 hk kC with ⟨h1, h2, D', R', t1, t2, t3, t4, t5⟩ | ⟨h1, t1, t2⟩
  · left
    have w : zW D (zp_i D' 14 kd (zg_i D' 14 kd + 1)) R (zp_i R' 9 kd (zg_i R' 9 kd + 1)) := by
      refine ⟨fun k => ?_, fun k => ?_, fun k => ?_, fun k a1 a2 a3 a4 a5 => ?_⟩
      · rw [y_gi, if_neg (by omega)]
        exact t5.c 9 k (by omega) (by omega)
      · rw [y_gi, if_neg (by omega)]
        exact t5.c 12 k (by omega) (by omega)
      · exact t5.cl 9 k
      · rw [y_gi, if_neg (by omega), t5.r k a1 a4, y_gi, if_neg (by omega)]
    have k7 : zg_i D' 7 7 = nI kd := (t5.c 7 7 (by omega) (by omega)).trans kC
    refine ⟨len, kd, r, c, x, st, Z, D, D', _, hl1, by omega, by omega, rfl, h.bC, t1, k7, t2, ⟨zA_cnt t3 (by omega) (by omega), K.w w ?_ (by omega) h2, hT h1 h2, S.fr (fun k => t5.cl 8 k) (fun k _ _ => t5.rl 0 k), fun _ => ⟨d, hd, by omega, (t5.rl 0 13).trans dR⟩⟩, w⟩
    rw [y_gi, if_neg (by omega)]
    exact t4
  · right
    have hv := h.v
    exact ⟨D, D, _, rfl, Or.inr ⟨h.bC, t1⟩, t2, (by decide : ¬ (1 : Int32) = 0), ⟨hv.hn, hv.hm, hv.pC, hv.pR, hv.pB, hv.kC, hv.kR, hv.kB, hv.sz, hv.fa, hv.wh, hv.wa, hv.lo, hv.kr, hv.kc, hv.c0, hv.cs, hv.en, hv.hg, hv.gC, hv.gR, hv.gB, hv.bR, hv.bC, hv.bS⟩, ⟨fun k => rfl, fun k => rfl, fun k => rfl, fun k a1 a2 a3 a4 a5 => by rw [y_gi, if_neg (by omega)]⟩⟩
def c_tk (kd : Nat) (q x1 x2 x3 : Int32) (D : zx_D) : Option zx_D :=
  if kd = 1 then
    (g_Mdl_codeLiteral_s (2052 + (768 * ((zo_shl (x1 &&& ((zo_shl 1 (zg_i D 7 4)) - 1)) (zg_i D 7 3)) + (zo_ushr x2 (8 - (zg_i D 7 3)))))) x3 (zp_i D 7 7 1)).bind fun q7 =>
    if 4 ≤ zg_i q7.2 7 2 then
      if 10 ≤ zg_i q7.2 7 2 then
        some (zp_i (zp_i (zp_i q7.2 7 8 q7.1) 7 9 1) 7 2 ((zg_i q7.2 7 2) - 6))
      else
        some (zp_i (zp_i (zp_i q7.2 7 8 q7.1) 7 9 1) 7 2 ((zg_i q7.2 7 2) - 3))
    else
      some (zp_i (zp_i (zp_i q7.2 7 8 q7.1) 7 9 1) 7 2 0)
  else if kd = 2 then
    (g_Mdl_codeLength_s 432 q (zp_i D 7 7 2)).bind fun q4 =>
      (g_Mdl_codeDistance_s (zp_i q4.2 7 9 q4.1)).bind fun q5 =>
      (g_Mdl_bringForward 3 q5.1 (zp_l q5.2 7 10 q5.1)).bind fun q6 =>
      if 7 ≤ zg_i q6 7 2 then
        some (zp_i q6 7 2 10)
      else
        some (zp_i q6 7 2 7)
  else if kd = 3 then
    if 7 ≤ zg_i D 7 2 then
      some (zp_i (zp_i (zp_i D 7 7 3) 7 9 1) 7 2 11)
    else
      some (zp_i (zp_i (zp_i D 7 7 3) 7 9 1) 7 2 9)
  else
    (g_Mdl_bringForward (nI (kd - 4)) (zg_l D 8 (kd - 4)) (zp_i D 7 7 (nI kd))).bind fun q2 =>
        (g_Mdl_codeLength_s 946 q q2).bind fun q3 =>
        if 7 ≤ zg_i q3.2 7 2 then
          some (zp_i (zp_i q3.2 7 9 q3.1) 7 2 11)
        else
          some (zp_i (zp_i q3.2 7 9 q3.1) 7 2 8)
theorem c_step {kd : Nat} (h1 : 1 ≤ kd) (h7 : kd ≤ 7) {x1 x2 x3 q : Int32} {D D1 : zx_D} (hq : x1 &&& ((zo_shl 1 (zg_i D 7 5)) - 1) = q) (hk : g_Mdl_codeKind_s q D = some (nI kd, D1)) : g_Mdl_step_s x1 x2 x3 D = c_tk kd q x1 x2 x3 D1 := by
  rw [g_Mdl_step_s, hq, hk, o_sb]
  unfold c_tk
  have hkd : kd = 1 ∨ kd = 2 ∨ kd = 3 ∨ (4 ≤ kd ∧ kd ≤ 7) := by omega
  rcases hkd with rfl | rfl | rfl | ⟨ha, hb⟩
  · rw [if_neg (fun t => t rfl), if_pos rfl]
    rfl
  · rw [if_pos (show ¬ nI 2 = 1 by decide), if_neg (show ¬ ¬ nI 2 = 2 from fun t => t rfl), if_neg (show ¬ (2 : Nat) = 1 by decide), if_pos (show (2 : Nat) = 2 from rfl)]
    rfl
  · rw [if_pos (show ¬ nI 3 = 1 by decide), if_pos (show ¬ nI 3 = 2 by decide), if_neg (show ¬ ¬ nI 3 = 3 from fun t => t rfl), if_neg (show ¬ (3 : Nat) = 1 by decide), if_neg (show ¬ (3 : Nat) = 2 by decide), if_pos (show (3 : Nat) = 3 from rfl)]
    rfl
  · have e : ∀ j : Nat, j < 4 → ¬ nI kd = nI j := fun j hj t => by have := (y_eq (by omega) (by omega)).mp t; omega
    have e1 : ¬ nI kd = 1 := e 1 (by omega)
    have e2 : ¬ nI kd = 2 := e 2 (by omega)
    have e3 : ¬ nI kd = 3 := e 3 (by omega)
    have e4 : nI kd - 4 = nI (kd - 4) := y_sub (b := 4) ha
    have z1 : zk_in (nI (kd - 4)) 4 = true := y_in (by omega) (by omega)
    have z2 : zn (nI (kd - 4)) = kd - 4 := y_zn (by omega)
    have k1 : ¬ kd = 1 := by omega
    have k2 : ¬ kd = 2 := by omega
    have k3 : ¬ kd = 3 := by omega
    simp only [e1, e2, e3, k1, k2, k3, e4, z1, z2, ↓reduceIte, not_false_eq_true]
