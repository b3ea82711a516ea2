abbrev zG (D D' R R' : zx_D) : Prop := Nonempty ((∀ p k, p ≠ 10 → p ≠ 11 → zg_i D' p k = zg_i D p k) ∧ (∀ p k, zg_l D' p k = zg_l D p k) ∧ (∀ k, k ≠ 5 → k ≠ 21 → zg_i R' 0 k = zg_i R 0 k) ∧ (∀ p k, zg_l R' p k = zg_l R p k))
theorem zG.c {D D' R R' : zx_D} (h : zG D D' R R') : ∀ p k, p ≠ 10 → p ≠ 11 → zg_i D' p k = zg_i D p k := h.elim fun q => q.1
theorem zG.cl {D D' R R' : zx_D} (h : zG D D' R R') : ∀ p k, zg_l D' p k = zg_l D p k := h.elim fun q => q.2.1
theorem zG.r {D D' R R' : zx_D} (h : zG D D' R R') : ∀ k, k ≠ 5 → k ≠ 21 → zg_i R' 0 k = zg_i R 0 k := h.elim fun q => q.2.2.1
theorem zG.rl {D D' R R' : zx_D} (h : zG D D' R R') : ∀ p k, zg_l R' p k = zg_l R p k := h.elim fun q => q.2.2.2
theorem zG_rfl {D R : zx_D} : zG D D R R := ⟨fun _ _ _ _ => Eq.refl _, fun _ _ => Eq.refl _, fun _ _ _ => Eq.refl _, fun _ _ => Eq.refl _⟩
theorem zG.trans {D D' D'' R R' R'' : zx_D} (h1 : zG D D' R R') (h2 : zG D' D'' R' R'') : zG D D'' R R'' :=
  ⟨fun p k a1 a2 => (h2.c p k a1 a2).trans (h1.c p k a1 a2), fun p k => (h2.cl p k).trans (h1.cl p k), fun k a1 a2 => (h2.r k a1 a2).trans (h1.r k a1 a2), fun p k => (h2.rl p k).trans (h1.rl p k)⟩
def zpC (D : zx_D) (g : Nat) (y : Int32) : zx_D := zp_i (zp_i D 11 g y) 10 1 (nI (g + 1))
def zpR (R : zx_D) (g : Nat) (y z : Int32) : zx_D := zp_i (zp_i (zp_i R 3 g y) 0 5 (nI (g + 1))) 0 21 z
theorem zG_push (D R : zx_D) (g : Nat) (y z : Int32) : zG D (zpC D g y) R (zpR R g y z) := by
  unfold zpC zpR
  refine ⟨fun p k a1 a2 => ?_, fun _ _ => Eq.refl _, fun k a1 a2 => ?_, fun _ _ => Eq.refl _⟩
  · simp [y_gi, a1, a2]
  · simp [y_gi, a1, a2]
theorem zV_push {n m g b : Nat} {D R : zx_D} (h : zV n m g b D R) (hg : g < 400) {y : Int32} (hy : y_B y) (z : Int32) : zV n m (g + 1) b (zpC D g y) (zpR R g y z) := by
  have hB : ∀ i, i < g + 1 → zg_i (zpC D g y) 11 i = zg_i (zpR R g y z) 3 i ∧ y_B (zg_i (zpR R g y z) 3 i) := by
    intro i hi
    have e1 : zg_i (zpC D g y) 11 i = if i = g then y else zg_i D 11 i := by
      unfold zpC
      rw [y_gi, if_neg (by omega), y_gi]
      simp
    have e2 : zg_i (zpR R g y z) 3 i = if i = g then y else zg_i R 3 i := by
      unfold zpR
      rw [y_gi, if_neg (by omega), y_gi, if_neg (by omega), y_gi]
      simp
    rw [e1, e2]
    by_cases q : i = g
    · rw [if_pos q, if_pos q]
      exact ⟨rfl, hy⟩
    · rw [if_neg q, if_neg q]
      exact h.gB i (by omega)
  exact ⟨h.hn, h.hm, h.pC, h.pR, h.pB, h.kC, h.kR, h.kB, h.sz, h.fa, h.wh, h.wa, h.lo, h.kr, h.kc, h.c0, h.cs, h.en, by omega, rfl, rfl, hB, h.bR, h.bC, h.bS⟩
theorem zA_push {n m g b r c x e lc lp pb st : Nat} {Z : Nat → Nat} {D R : zx_D} (h : zA n m g b r c x e lc lp pb st Z D R) (hg : g < 400) {y : Int32} (hy : y_B y) (z : Int32) : zA n m (g + 1) b r c x e lc lp pb st Z (zpC D g y) (zpR R g y z) := by
  have hv := zV_push h.v hg hy z
  exact ⟨hv, h.bC, h.bR, h.hr1, h.hr2, h.rC, h.rR, h.hc, h.cC, h.cR, h.be, h.nC, h.nR, h.eC, h.eR, h.xe, h.em, ⟨h.md.hc, h.md.hp, h.md.lcC, h.md.lcR, h.md.lpC, h.md.lpR, h.md.pbC, h.md.pbR, h.md.hs, h.md.stC, h.md.stR, h.md.ch⟩⟩
theorem c_app10 {n m g b : Nat} {D R : zx_D} (h : zV n m g b D R) (hg : g < 400) (y : Int32) : g_Row_append_10 y D = some (zpC D g y) := by
  rw [g_Row_append_10, h.gC, if_pos (show nI g < 400 from (y_lt (b := 400) (by omega) (by omega)).mpr hg), if_pos (y_in hg (by omega)), y_zn (by omega), y_1]
  rfl
theorem r_give {n m g b : Nat} {D R : zx_D} (h : zV n m g b D R) (hg : g < 400) {U : Nat} (hl : zg_i R 0 21 = nI (U - g)) (hU : g < U) (y : Int32) : g_R_give y R = some (zpR R g y (nI (U - (g + 1)))) := by
  rw [g_R_give, h.gR, hl, if_pos (y_in hg (by omega)), y_zn (by omega), y_1, show nI (U - g) - 1 = nI (U - g - 1) from y_sub (a := U - g) (b := 1) (by omega), show U - g - 1 = U - (g + 1) by omega]
  rfl
theorem c_bb {n m g b : Nat} {D R : zx_D} (h : zV n m g b D R) {d : Nat} (h1 : 1 ≤ d) (h2 : d ≤ g) (h3 : 1 ≤ g) : g_Row_byteBack_10 (nI g) (nL d) D = some (zg_i R 3 (g - d)) := by
  have hg := h.hg
  rw [g_Row_byteBack_10, if_neg (show ¬ nL d < 1 from fun q => by have := (v_lt (b := 1) (by omega) (by omega)).mp q; omega), v_of (by omega), if_neg (fun q => by have := (v_lt (by omega) (by omega)).mp q; omega), if_pos (show nI g ≤ 400 from (y_le (b := 400) (by omega) (by omega)).mpr hg), v_to, y_sub h2, if_pos (y_in (by omega) (by omega)), y_zn (by omega), (h.gB (g - d) (by omega)).1]
theorem c_bb0 {n m g b : Nat} {D R : zx_D} (h : zV n m g b D R) {d : Nat} (h1 : 1 ≤ d) (hd : d < 2 ^ 34) (h2 : g < d) : g_Row_byteBack_10 (nI g) (nL d) D = some 0 := by
  have hg := h.hg
  rw [g_Row_byteBack_10, if_neg (show ¬ nL d < 1 from fun q => by have := (v_lt (b := 1) (by omega) (by omega)).mp q; omega), v_of (by omega), if_pos ((v_lt (by omega) (by omega)).mpr h2)]
theorem s_rep {n m b r c x e lc lp pb st len d U : Nat} {Z : Nat → Nat} (x2 : Int32) (hl : len ≤ 400) (hd : 1 ≤ d) (hU : U ≤ 400) : ∀ (j kC kR i g : Nat) (D R : zx_D), j < kC → j < kR → i + j = len → zA n m g b r c x e lc lp pb st Z D R → zg_i R 0 21 = nI (U - g) → g + j ≤ U → d ≤ g → zg_l R 0 13 = nL d →
    ∃ D' R', g_Row_repeat_10_3 (nL d) (nI len) kC (nI i) D = some D' ∧ g_R_back_39 (nI len) x2 kR (nI i) R = some R' ∧ zA n m (g + j) b r c x e lc lp pb st Z D' R' ∧ zg_i R' 0 21 = nI (U - (g + j)) ∧ zG D D' R R'
  | 0, kC + 1, kR + 1, i, g, D, R, _, _, hi, h, h21, _, _, _ => by
    have e : nI len ≤ nI i := (y_le (by omega) (by omega)).mpr (by omega)
    exact ⟨D, R, by rw [g_Row_repeat_10_3, if_pos e], by rw [g_R_back_39, if_pos e], h, h21, zG_rfl⟩
  | j + 1, kC + 1, kR + 1, i, g, D, R, h1, h2, hi, h, h21, hgU, hdg, h13 => by
    have e : ¬ nI len ≤ nI i := fun q => by have := (y_le (by omega) (by omega)).mp q; omega
    have hy := h.v.gB (g - d) (by omega)
    have hbR := h.bR
    obtain ⟨D', R', a1, a2, a3, a4, a5⟩ := s_rep x2 hl hd hU j kC kR (i + 1) (g + 1) _ _ (by omega) (by omega) (by omega) (zA_push h (by omega) hy.2 (nI (U - (g + 1)))) rfl (by omega) (by omega) h13
    refine ⟨D', R', ?_, ?_, by rwa [show g + 1 + j = g + (j + 1) by omega] at a3, by rwa [show g + 1 + j = g + (j + 1) by omega] at a4, (zG_push D R g _ _).trans a5⟩
    · rw [g_Row_repeat_10_3, if_neg e, h.v.gC, c_bb h.v hd hdg (by omega), Option.bind_some, c_app10 h.v (by omega), Option.bind_some, y_1]
      exact a1
    · rw [g_R_back_39, if_neg e, if_neg (fun q => q hbR), h.v.gR, h13, v_to, y_sub hdg, if_pos (y_in (by omega) (by omega)), y_zn (by omega), r_give h.v (by omega) h21 (by omega), Option.bind_some, y_1]
      exact a2
theorem s_back {n m g b r c x e lc lp pb st len d f U kd : Nat} {Z : Nat → Nat} {D R : zx_D} (h : zA n m g b r c x e lc lp pb st Z D R) (hfg : f ≤ g) (hgU : g ≤ U) (hU : U ≤ 400) (fR : zg_i R 0 23 = nI f) (h21 : zg_i R 0 21 = nI (U - g)) (hd : 1 ≤ d) (hd2 : d < 2 ^ 34) (dC : zg_l D 8 0 = nL d) (dR : zg_l R 0 13 = nL d) (hl1 : 1 ≤ len) (hl : len ≤ 273) (lC : zg_i D 7 9 = nI len) (hk1 : 2 ≤ kd) (hk : kd ≤ 7) (kC : zg_i D 7 7 = nI kd) :
    (d + f ≤ g ∧ g + len ≤ U ∧ ∃ D' R', g_Unp_giveStep (nI (g - f)) (nI U) D = some (1, D') ∧ g_R_back (nI len) (nI kd) R = some (zp_i R' 9 kd (zg_i R' 9 kd + 1)) ∧ zA n m (g + len) b r c x e lc lp pb st Z D' R' ∧ zg_i R' 0 21 = nI (U - (g + len)) ∧ zG D D' (zp_i R 0 22 0) R') ∨
    ((g < d + f ∨ U < g + len) ∧ g_Unp_giveStep (nI (g - f)) (nI U) D = some (0, D) ∧ g_R_back (nI len) (nI kd) R = some (zp_i R 0 22 1)) := by
  have hbR := h.bR
  have e1 : ¬ zg_i D 7 7 = 1 := by
    rw [kC]
    intro q
    have := (y_eq (a := kd) (b := 1) (by omega) (by omega)).mp q
    omega
  have e2 : g_Mdl_distanceOf 0 D = some (nL d) := by
    rw [g_Mdl_distanceOf, if_pos (by decide), show zn 0 = 0 from rfl, dC]
  have e3 : g_R_bytes R = some (nI (g - f)) := by rw [g_R_bytes, h.v.gR, fR, y_sub hfg]
  have e4 : (nI (g - f)).toInt64 = nL (g - f) := v_of (by omega)
  have e5 : nI U - nI g = nI (U - g) := y_sub hgU
  have z1 : zk_in (nI kd) 11 = true := y_in (by omega) (by omega)
  have z2 : zn (nI kd) = kd := y_zn (by omega)
  have bad : ∀ R1 : zx_D, R1 = zp_i R 0 22 1 → g_R_back_39 (nI len) (nI kd) 10000 0 R1 = some R1 := by
    intro R1 hR1
    rw [g_R_back_39, if_neg (show ¬ nI len ≤ 0 from fun q => by have := (y_le (b := 0) (by omega) (by omega)).mp q; omega), if_pos (by rw [hR1]; exact (by decide : ¬ (1 : Int32) = 0))]
  have bad2 : zg_i (zp_i R 0 22 1) 0 22 = 1 := rfl
  have z4 : ¬ (1 : Int32) = 0 := by decide
  by_cases c1 : g - f < d
  · right
    have l1 : nL (g - f) < nL d := (v_lt (by omega) (by omega)).mpr c1
    refine ⟨by omega, ?_, ?_⟩
    · simp only [g_Unp_giveStep, e1, e2, e4, l1, o_sb, ↓reduceIte, not_true_eq_false, not_false_eq_true]
    · simp only [g_R_back, hbR, e3, e4, dR, l1, bad _ rfl, bad2, z4, z1, z2, o_sb, y_same, ↓reduceIte, not_true_eq_false, not_false_eq_true, or_true]
  · have l1 : ¬ nL (g - f) < nL d := fun q => by have := (v_lt (by omega) (by omega)).mp q; omega
    by_cases c2 : len ≤ U - g
    · left
      have l2 : nI len ≤ nI (U - g) := (y_le (by omega) (by omega)).mpr c2
      have h0 : zA n m g b r c x e lc lp pb st Z D (zp_i R 0 22 0) := ⟨⟨h.v.hn, h.v.hm, h.v.pC, h.v.pR, h.v.pB, h.v.kC, h.v.kR, h.v.kB, h.v.sz, h.v.fa, h.v.wh, h.v.wa, h.v.lo, h.v.kr, h.v.kc, h.v.c0, h.v.cs, h.v.en, h.v.hg, h.v.gC, h.v.gR, h.v.gB, h.v.bR, h.v.bC, h.v.bS⟩, h.bC, rfl, h.hr1, h.hr2, h.rC, h.rR, h.hc, h.cC, h.cR, h.be, h.nC, h.nR, h.eC, h.eR, h.xe, h.em, ⟨h.md.hc, h.md.hp, h.md.lcC, h.md.lcR, h.md.lpC, h.md.lpR, h.md.pbC, h.md.pbR, h.md.hs, h.md.stC, h.md.stR, h.md.ch⟩⟩
      obtain ⟨D', R', a1, a2, a3, a4, a5⟩ := s_rep (nI kd) (len := len) (d := d) (U := U) (by omega) hd hU len 10000 10000 0 g D (zp_i R 0 22 0) (by omega) (by omega) (by omega) h0 h21 (by omega) (by omega) dR
      have a1 : g_Row_repeat_10_3 (nL d) (nI len) 10000 0 D = some D' := a1
      have a2 : g_R_back_39 (nI len) (nI kd) 10000 0 (zp_i R 0 22 0) = some R' := a2
      have a6 := a3.bR
      refine ⟨by omega, by omega, D', R', ?_, ?_, a3, a4, a5⟩
      · simp only [g_Unp_giveStep, e1, e2, e4, l1, lC, h.v.gC, e5, l2, g_Row_repeat_10, a1, o_sb, ↓reduceIte, not_true_eq_false, not_false_eq_true]
      · simp only [g_R_back, hbR, e3, e4, dR, l1, h21, l2, a2, a6, z1, z2, o_sb, ↓reduceIte, not_true_eq_false, not_false_eq_true, true_or]
    · right
      have l2 : ¬ nI len ≤ nI (U - g) := fun q => by have := (y_le (by omega) (by omega)).mp q; omega
      refine ⟨by omega, ?_, ?_⟩
      · simp only [g_Unp_giveStep, e1, e2, e4, l1, lC, h.v.gC, e5, l2, o_sb, ↓reduceIte, not_true_eq_false, not_false_eq_true]
      · simp only [g_R_back, hbR, e3, e4, dR, l1, h21, l2, bad _ rfl, bad2, z4, z1, z2, o_sb, y_same, ↓reduceIte, not_true_eq_false, not_false_eq_true, or_true]
theorem zV_cnt {n m g b : Nat} {D R : zx_D} (h : zV n m g b D R) {kd : Nat} (h1 : 1 ≤ kd) (h2 : kd ≤ 9) : zV n m g b (zp_i D 14 kd (zg_i D 14 kd + 1)) (zp_i R 9 kd (zg_i R 9 kd + 1)) := by
  have e0 : zg_i (zp_i R 9 kd (zg_i R 9 kd + 1)) 9 0 = zg_i R 9 0 := by rw [y_gi, if_neg (by omega)]
  have e1 : zg_i (zp_i D 14 kd (zg_i D 14 kd + 1)) 14 10 = nI b := by
    rw [y_gi, if_neg (by omega)]
    exact h.bC
  have hc : ∀ i, 1 ≤ i → i ≤ 10 → zg_i (zp_i D 14 kd (zg_i D 14 kd + 1)) 14 i = zg_i (zp_i R 9 kd (zg_i R 9 kd + 1)) 9 i := by
    intro i hi1 hi2
    rw [y_gi, y_gi]
    by_cases q : i = kd
    · rw [if_pos ⟨rfl, q⟩, if_pos ⟨rfl, q⟩, h.cs kd h1 (by omega)]
    · rw [if_neg (fun t => q t.2), if_neg (fun t => q t.2), h.cs i hi1 hi2]
  exact ⟨h.hn, h.hm, h.pC, h.pR, h.pB, h.kC, h.kR, h.kB, h.sz, h.fa, h.wh, h.wa, h.lo, h.kr, h.kc, h.c0.trans e0.symm, hc, h.en, h.hg, h.gC, h.gR, h.gB, h.bR, e1, h.bS⟩
theorem zA_cnt {n m g b r c x e lc lp pb st : Nat} {Z : Nat → Nat} {D R : zx_D} (h : zA n m g b r c x e lc lp pb st Z D R) {kd : Nat} (h1 : 1 ≤ kd) (h2 : kd ≤ 9) : zA n m g b r c x e lc lp pb st Z (zp_i D 14 kd (zg_i D 14 kd + 1)) (zp_i R 9 kd (zg_i R 9 kd + 1)) := by
  have hv := zV_cnt h.v h1 h2
  exact ⟨hv, h.bC, h.bR, h.hr1, h.hr2, h.rC, h.rR, h.hc, h.cC, h.cR, h.be, h.nC, h.nR, h.eC, h.eR, h.xe, h.em, ⟨h.md.hc, h.md.hp, h.md.lcC, h.md.lcR, h.md.lpC, h.md.lpR, h.md.pbC, h.md.pbR, h.md.hs, h.md.stC, h.md.stR, h.md.ch⟩⟩
