theorem zM_fr {lc lp pb st : Nat} {Z : Nat → Nat} {D R D' R' : zx_D} (h : zM lc lp pb st Z D R) (h6 : ∀ k, zg_i D' 6 k = zg_i D 6 k) (h7 : ∀ k, 2 ≤ k → k ≤ 5 → zg_i D' 7 k = zg_i D 7 k) (hr : ∀ k, 9 ≤ k → k ≤ 12 → zg_i R' 0 k = zg_i R 0 k) (h5 : ∀ k, zg_i R' 5 k = zg_i R 5 k) : zM lc lp pb st Z D' R' := by
  refine ⟨h.hc, h.hp, ?_, ?_, ?_, ?_, ?_, ?_, h.hs, ?_, ?_, ?_⟩
  · rw [h7 _ (by omega) (by omega)]; exact h.lcC
  · rw [hr _ (by omega) (by omega)]; exact h.lcR
  · rw [h7 _ (by omega) (by omega)]; exact h.lpC
  · rw [hr _ (by omega) (by omega)]; exact h.lpR
  · rw [h7 _ (by omega) (by omega)]; exact h.pbC
  · rw [hr _ (by omega) (by omega)]; exact h.pbR
  · rw [h7 _ (by omega) (by omega)]; exact h.stC
  · rw [hr _ (by omega) (by omega)]; exact h.stR
  · intro k hk; rw [h6, h5]; exact h.ch k hk
def zMd (g f : Nat) (D R : zx_D) : Prop := ∃ lc lp pb st Z, zM lc lp pb st Z D R ∧ zDs D R ∧ tot zKL Z + tot zFs Z ≤ g ∧ (7 ≤ st → ∃ d, 1 ≤ d ∧ d + f ≤ g ∧ zg_l R 0 13 = nL d)
theorem zMd.fr {g f g' : Nat} {D R D' R' : zx_D} (h : zMd g f D R) (hg : g ≤ g') (h6 : ∀ k, zg_i D' 6 k = zg_i D 6 k) (h7 : ∀ k, 2 ≤ k → k ≤ 5 → zg_i D' 7 k = zg_i D 7 k) (h8 : ∀ k, zg_l D' 8 k = zg_l D 8 k) (hr : ∀ k, 9 ≤ k → k ≤ 12 → zg_i R' 0 k = zg_i R 0 k) (h5 : ∀ k, zg_i R' 5 k = zg_i R 5 k) (hl : ∀ k, 13 ≤ k → k ≤ 16 → zg_l R' 0 k = zg_l R 0 k) : zMd g' f D' R' := by
  obtain ⟨lc, lp, pb, st, Z, a1, a2, a3, a4⟩ := h
  refine ⟨lc, lp, pb, st, Z, zM_fr a1 h6 h7 hr h5, a2.fr h8 hl, by omega, fun t => ?_⟩
  obtain ⟨d, d1, d2, d3⟩ := a4 t
  exact ⟨d, d1, by omega, (hl 13 (by omega) (by omega)).trans d3⟩
abbrev zY (D D' R R' : zx_D) : Prop := Nonempty ((∀ k, k = 7 ∨ k = 8 ∨ k = 9 → zg_i D' 9 k = zg_i D 9 k) ∧ (∀ k, zg_l D' 9 k = zg_l D 9 k) ∧ (zg_i R' 0 31 = zg_i R 0 31))
theorem zY.c {D D' R R' : zx_D} (h : zY D D' R R') : ∀ k, k = 7 ∨ k = 8 ∨ k = 9 → zg_i D' 9 k = zg_i D 9 k := h.elim fun q => q.1
theorem zY.cl {D D' R R' : zx_D} (h : zY D D' R R') : ∀ k, zg_l D' 9 k = zg_l D 9 k := h.elim fun q => q.2.1
theorem zY.r {D D' R R' : zx_D} (h : zY D D' R R') : zg_i R' 0 31 = zg_i R 0 31 := h.elim fun q => q.2.2
theorem zY_rfl {D R : zx_D} : zY D D R R := ⟨fun _ _ => Eq.refl _, fun _ => Eq.refl _, Eq.refl _⟩
theorem zY.trans {D D' D'' R R' R'' : zx_D} (h1 : zY D D' R R') (h2 : zY D' D'' R' R'') : zY D D'' R R'' := ⟨fun k hk => (h2.c k hk).trans (h1.c k hk), fun k => (h2.cl k).trans (h1.cl k), h2.r.trans h1.r⟩
theorem zW.y {D D' R R' : zx_D} (h : zW D D' R R') : zY D D' R R' := ⟨fun k _ => h.c k, h.cl, h.r 31 (by omega) (by omega) (by omega) (by omega) (by omega)⟩
abbrev zC (n m g b a f : Nat) (D R : zx_D) : Prop := Nonempty ((zS n m g b m a D R) ∧ ((zg_i D 9 13 = 1 ∧ zg_i R 0 35 = 0 ∧ zg_i D 9 14 = 1 ∧ zg_i R 0 36 = 1) ∨ (zg_i D 9 13 = 0 ∧ zg_i R 0 35 = 1 ∧ f ≤ g ∧ zg_i D 9 12 = nI f ∧ zg_i R 0 23 = nI f ∧ ((zg_i D 9 14 = 1 ∧ zg_i R 0 36 = 1) ∨ (zg_i D 9 14 = 0 ∧ zg_i R 0 36 = 0 ∧ zMd g f D R)))))
theorem zC.S {n m g b a f : Nat} {D R : zx_D} (h : zC n m g b a f D R) : zS n m g b m a D R := h.elim fun q => q.1
theorem zC.em {n m g b a f : Nat} {D R : zx_D} (h : zC n m g b a f D R) : (zg_i D 9 13 = 1 ∧ zg_i R 0 35 = 0 ∧ zg_i D 9 14 = 1 ∧ zg_i R 0 36 = 1) ∨ (zg_i D 9 13 = 0 ∧ zg_i R 0 35 = 1 ∧ f ≤ g ∧ zg_i D 9 12 = nI f ∧ zg_i R 0 23 = nI f ∧ ((zg_i D 9 14 = 1 ∧ zg_i R 0 36 = 1) ∨ (zg_i D 9 14 = 0 ∧ zg_i R 0 36 = 0 ∧ zMd g f D R))) := h.elim fun q => q.2
abbrev zO (D D' R R' : zx_D) : Prop := Nonempty ((∀ p k, p ≠ 10 → p ≠ 11 → zg_i D' p k = zg_i D p k) ∧ (∀ p k, zg_l D' p k = zg_l D p k) ∧ (∀ k, k ≠ 5 → k ≠ 28 → zg_i R' 0 k = zg_i R 0 k) ∧ (∀ k, zg_i R' 5 k = zg_i R 5 k) ∧ (∀ p k, zg_l R' p k = zg_l R p k))
theorem zO.c {D D' R R' : zx_D} (h : zO D D' R R') : ∀ p k, p ≠ 10 → p ≠ 11 → zg_i D' p k = zg_i D p k := h.elim fun q => q.1
theorem zO.cl {D D' R R' : zx_D} (h : zO D D' R R') : ∀ p k, zg_l D' p k = zg_l D p k := h.elim fun q => q.2.1
theorem zO.r {D D' R R' : zx_D} (h : zO D D' R R') : ∀ k, k ≠ 5 → k ≠ 28 → zg_i R' 0 k = zg_i R 0 k := h.elim fun q => q.2.2.1
theorem zO.r5 {D D' R R' : zx_D} (h : zO D D' R R') : ∀ k, zg_i R' 5 k = zg_i R 5 k := h.elim fun q => q.2.2.2.1
theorem zO.rl {D D' R R' : zx_D} (h : zO D D' R R') : ∀ p k, zg_l R' p k = zg_l R p k := h.elim fun q => q.2.2.2.2
theorem zO_rfl {D R : zx_D} : zO D D R R := ⟨fun _ _ _ _ => Eq.refl _, fun _ _ => Eq.refl _, fun _ _ _ => Eq.refl _, fun _ => Eq.refl _, fun _ _ => Eq.refl _⟩
theorem zO.trans {D D' D'' R R' R'' : zx_D} (h1 : zO D D' R R') (h2 : zO D' D'' R' R'') : zO D D'' R R'' :=
  ⟨fun p k a1 a2 => (h2.c p k a1 a2).trans (h1.c p k a1 a2), fun p k => (h2.cl p k).trans (h1.cl p k), fun k a1 a2 => (h2.r k a1 a2).trans (h1.r k a1 a2), fun k => (h2.r5 k).trans (h1.r5 k), fun p k => (h2.rl p k).trans (h1.rl p k)⟩
theorem s_plainL {n m b a G : Nat} : ∀ (j k1 k2 i g : Nat) (D R : zx_D), j < k1 → j < k2 → i + j = G → a + G ≤ m → g + j ≤ 400 → zV n m g b D R → zg_i R 0 28 = nI (a + i) →
    ∃ D' R', g_Row_appendAll_10_4_3 (nI a) (nI G) k1 (nI (a + i)) D = some D' ∧ g_R_plainChunk_47 (nI G) k2 (nI i) R = some R' ∧ zV n m (g + j) b D' R' ∧ zg_i R' 0 28 = nI (a + G) ∧ zO D D' R R'
  | 0, k1 + 1, k2 + 1, i, g, D, R, _, _, hi, ha, _, h, h28 => by
    have hm := h.hm
    have e : i = G := by omega
    subst e
    refine ⟨D, R, ?_, ?_, h, h28, zO_rfl⟩
    · rw [g_Row_appendAll_10_4_3, y_add, if_pos (Int32.le_refl _)]
    · rw [g_R_plainChunk_47, if_pos (Int32.le_refl _)]
  | j + 1, k1 + 1, k2 + 1, i, g, D, R, h1, h2, hi, ha, hg, h, h28 => by
    have hm := h.hm
    obtain ⟨y1, y2⟩ := h.kB (a + i) (by omega)
    have hv := zV_push h (by omega) y2 0
    have hv2 : zV n m (g + 1) b (zpC D g (zg_i R 2 (a + i))) (zp_i (zp_i (zp_i R 3 g (zg_i R 2 (a + i))) 0 5 (nI (g + 1))) 0 28 (nI (a + (i + 1)))) := ⟨hv.hn, hv.hm, hv.pC, hv.pR, hv.pB, hv.kC, hv.kR, hv.kB, hv.sz, hv.fa, hv.wh, hv.wa, hv.lo, hv.kr, hv.kc, hv.c0, hv.cs, hv.en, hv.hg, hv.gC, hv.gR, hv.gB, hv.bR, hv.bC, hv.bS⟩
    have hO : zO D (zpC D g (zg_i R 2 (a + i))) R (zp_i (zp_i (zp_i R 3 g (zg_i R 2 (a + i))) 0 5 (nI (g + 1))) 0 28 (nI (a + (i + 1)))) := ⟨fun p k q1 q2 => by simp [zpC, y_gi, q1, q2], fun p k => rfl, fun k q1 q2 => by simp [y_gi, q1, q2], fun k => rfl, fun p k => rfl⟩
    obtain ⟨D', R', a1, a2, a3, a4, a5⟩ := s_plainL j k1 k2 (i + 1) (g + 1) _ _ (by omega) (by omega) (by omega) ha (by omega) hv2 rfl
    refine ⟨D', R', ?_, ?_, by rwa [show g + 1 + j = g + (j + 1) by omega] at a3, a4, hO.trans a5⟩
    · rw [g_Row_appendAll_10_4_3, y_add, if_neg (fun q => by have := (y_le (by omega) (by omega)).mp q; omega), if_pos (y_in (by omega) (by omega)), y_zn (by omega), y1, c_app10 h (by omega), o_sb, y_1, show a + i + 1 = a + (i + 1) by omega]
      exact a1
    · rw [g_R_plainChunk_47, if_neg (fun q => by have := (y_le (by omega) (by omega)).mp q; omega), h28, h.gR, if_pos (y_in (by omega) (by omega)), if_pos (y_in (by omega) (by omega)), y_zn (by omega), y_zn (by omega), y_1, y_1, y_1, show a + i + 1 = a + (i + 1) by omega]
      exact a2
theorem c_room {n m g b a G : Nat} {D R : zx_D} (h : zS n m g b m a D R) (hG : G < 2 ^ 30) {M : Nat} (hM : M < 2 ^ 30) (h16 : zg_i D 9 16 = nI G) :
    (a + M ≤ m ∧ g + G ≤ 400 ∧ g_Unp_hasBytesAndRoom (nI M) D = some (1, D) ∧ g_R_has (nI M) R = some (1, R)) ∨
    (a + M ≤ m ∧ 400 < g + G ∧ g_Unp_hasBytesAndRoom (nI M) D = some (0, zp_i (zp_i D 12 4 (-5)) 12 5 (nI a)) ∧ g_R_has (nI M) R = some (1, R)) ∨
    (∃ D' R', g_Unp_hasBytesAndRoom (nI M) D = some (0, D') ∧ g_R_has (nI M) R = some (0, R') ∧ zF n m g b D' R') := by
  have hg := h.v.hg
  have z1 : ¬ (1 : Int32) = 0 := by decide
  rcases s_has h hM with ⟨h1, h2, h3⟩ | ⟨h1, D', R', h2, h3, h4⟩
  · have e0 : (400 : Int32) - zg_i D 10 1 = nI (400 - g) := by
      rw [h.v.gC]
      exact y_sub (a := 400) hg
    by_cases t : 400 - g < G
    · right
      left
      have e1 : nI (400 - g) < nI G := (y_lt (by omega) (by omega)).mpr t
      have e2 : g_Cur_fail (-5) (nI a) D = some (zp_i (zp_i D 12 4 (-5)) 12 5 (nI a)) := c_fail1 _ _ h.c
      have e3 : g_Cur_isSound (zp_i (zp_i D 12 4 (-5)) 12 5 (nI a)) = some 0 := c_snd0 (by decide : ¬ (-5 : Int32) = 0)
      refine ⟨h1, by omega, ?_, h3⟩
      simp only [g_Unp_hasBytesAndRoom, h2, z1, g_Row_hasRoom_10, h16, e0, e1, h.nC, e2, e3, o_sb, ↓reduceIte, not_true_eq_false, true_or]
    · left
      have e1 : ¬ nI (400 - g) < nI G := fun q => t ((y_lt (by omega) (by omega)).mp q)
      refine ⟨h1, by omega, ?_, h3⟩
      simp only [g_Unp_hasBytesAndRoom, h2, z1, g_Row_hasRoom_10, h16, e0, e1, c_snd1 h.c, o_sb, ↓reduceIte, not_false_eq_true, or_true]
  · right
    right
    refine ⟨D', R', ?_, h3, h4⟩
    simp only [g_Unp_hasBytesAndRoom, h2, c_snd0 h4.c, o_sb, ↓reduceIte, true_or]
theorem s_plain {n m g b a f G : Nat} {D R : zx_D} (h : zS n m g b m a D R) (hG1 : 1 ≤ G) (hG : G < 2 ^ 30) (h16 : zg_i D 9 16 = nI G) (x2 : Int32) (h13 : zg_i D 9 13 = 0)
    (hx : (¬ x2 = 0 ∧ zg_i D 9 12 = nI g ∧ zg_i D 9 14 = 1 ∧ f = g) ∨ (x2 = 0 ∧ zg_i R 0 35 = 1 ∧ f ≤ g ∧ zg_i D 9 12 = nI f ∧ zg_i R 0 23 = nI f ∧ ((zg_i D 9 14 = 1 ∧ zg_i R 0 36 = 1) ∨ (zg_i D 9 14 = 0 ∧ zg_i R 0 36 = 0 ∧ zMd g f D R)))) :
    (∃ D' R', a + G ≤ m ∧ g_Unp_givePlain D = some D' ∧ g_R_has (nI G) R = some (1, R) ∧ g_R_plainChunk (nI G) x2 R = some R' ∧ zC n m (g + G) b (a + G) f D' R' ∧ zY D D' R R') ∨
    (∃ D' R', g_Unp_givePlain D = some D' ∧ g_R_has (nI G) R = some (1, R) ∧ g_R_plainChunk (nI G) x2 R = some R' ∧ zF n m g b D' R') ∨
    (∃ D' R', g_Unp_givePlain D = some D' ∧ g_R_has (nI G) R = some (0, R') ∧ zF n m g b D' R') := by
  have z1 : ¬ (1 : Int32) = 0 := by decide
  have hv := h.v
  have hg := hv.hg
  rcases c_room h hG hG h16 with ⟨h1, h2, h3, h4⟩ | ⟨h1, h2, h3, h4⟩ | ⟨D', R', h3, h4, h5⟩
  · left
    obtain ⟨R1, hR1, hV1, h28, q23, q35, q36, hMd⟩ : ∃ R1, ((if x2 = 0 then some R else some (zp_i (zp_i (zp_i R 0 35 1) 0 36 1) 0 23 (zg_i R 0 5))) : Option zx_D) = some R1 ∧ zV n m g b D R1 ∧ zg_i R1 0 28 = nI a ∧ zg_i R1 0 23 = nI f ∧ zg_i R1 0 35 = 1 ∧ ((zg_i D 9 14 = 1 ∧ zg_i R1 0 36 = 1) ∨ (zg_i D 9 14 = 0 ∧ zg_i R1 0 36 = 0 ∧ zMd g f D R1)) ∧ (f ≤ g ∧ zg_i D 9 12 = nI f ∧ zg_i R1 0 29 = 0 ∧ zg_i R1 0 31 = zg_i R 0 31) := by
      rcases hx with ⟨y1, y2, y3, y4⟩ | ⟨y1, y2, y3, y4, y5, y6⟩
      · subst y4
        exact ⟨_, if_neg y1, ⟨hv.hn, hv.hm, hv.pC, hv.pR, hv.pB, hv.kC, hv.kR, hv.kB, hv.sz, hv.fa, hv.wh, hv.wa, hv.lo, hv.kr, hv.kc, hv.c0, hv.cs, hv.en, hv.hg, hv.gC, hv.gR, hv.gB, hv.bR, hv.bC, hv.bS⟩, h.nR, hv.gR, rfl, Or.inl ⟨y3, rfl⟩, Nat.le_refl _, y2, h.f, rfl⟩
      · exact ⟨R, if_pos y1, hv, h.nR, y5, y2, y6, y3, y4, h.f, rfl⟩
    obtain ⟨hfg, h12, hf1, h31⟩ := hMd
    obtain ⟨D', R', a1, a2, a3, a4, a5⟩ := s_plainL (a := a) (G := G) G 10000 10000 0 g D R1 (by omega) (by omega) (by omega) h1 h2 hV1 h28
    have a1 : g_Row_appendAll_10_4_3 (nI a) (nI G) 10000 (nI a) D = some D' := a1
    have a2 : g_R_plainChunk_47 (nI G) 10000 0 R1 = some R' := a2
    have hm := hv.hm
    have e1 : zg_i R 0 5 + nI G ≤ 400 := by
      rw [hv.gR, y_add]
      exact (y_le (b := 400) (by omega) (by omega)).mpr h2
    have n3 : zg_i D' 12 3 = nI a := (a5.c 12 3 (by omega) (by omega)).trans h.nC
    have n16 : zg_i D' 9 16 = nI G := (a5.c 9 16 (by omega) (by omega)).trans h16
    have eadd : zg_i D' 12 3 + zg_i D' 9 16 = nI (a + G) := by rw [n3, n16, y_add]
    have hV3 := zV_cnt a3 (kd := 9) (by omega) (by omega)
    have hS : zS n m (g + G) b m (a + G) (zp_i (zp_i D' 12 3 (nI (a + G))) 14 9 (zg_i D' 14 9 + 1)) (zp_i R' 9 9 (zg_i R' 9 9 + 1)) :=
      ⟨⟨hV3.hn, hV3.hm, hV3.pC, hV3.pR, hV3.pB, hV3.kC, hV3.kR, hV3.kB, hV3.sz, hV3.fa, hV3.wh, hV3.wa, hV3.lo, hV3.kr, hV3.kc, hV3.c0, hV3.cs, hV3.en, hV3.hg, hV3.gC, hV3.gR, hV3.gB, hV3.bR, hV3.bC, hV3.bS⟩, (a5.r 29 (by omega) (by omega)).trans hf1, rfl, a4, (a5.c 12 2 (by omega) (by omega)).trans h.eC, h1, Nat.le_refl _⟩
    refine ⟨zp_i (zp_i D' 12 3 (nI (a + G))) 14 9 (zg_i D' 14 9 + 1), zp_i R' 9 9 (zg_i R' 9 9 + 1), h1, ?_, h4, ?_, ⟨hS, Or.inr ⟨(a5.c 9 13 (by omega) (by omega)).trans h13, (a5.r 35 (by omega) (by omega)).trans q35, by omega, (a5.c 9 12 (by omega) (by omega)).trans h12, (a5.r 23 (by omega) (by omega)).trans q23, ?_⟩⟩, ⟨fun k hk => ?_, fun k => a5.cl 9 k, ?_⟩⟩
    · have z8 : zn 9 = 9 := rfl
      simp only [g_Unp_givePlain, h16, h3, z1, h.nC, g_Row_appendAll_10_4, a1, eadd, z8, o_sb, ↓reduceIte, not_false_eq_true]
    · have z8 : zn 9 = 9 := rfl
      simp only [g_R_plainChunk, e1, hR1, a2, z8, o_sb, ↓reduceIte]
    · rcases q36 with ⟨y1, y2⟩ | ⟨y1, y2, y3⟩
      · exact Or.inl ⟨(a5.c 9 14 (by omega) (by omega)).trans y1, (a5.r 36 (by omega) (by omega)).trans y2⟩
      · exact Or.inr ⟨(a5.c 9 14 (by omega) (by omega)).trans y1, (a5.r 36 (by omega) (by omega)).trans y2, y3.fr (by omega) (fun k => a5.c 6 k (by omega) (by omega)) (fun k _ _ => a5.c 7 k (by omega) (by omega)) (fun k => a5.cl 8 k) (fun k _ _ => a5.r k (by omega) (by omega)) (fun k => a5.r5 k) (fun k _ _ => a5.rl 0 k)⟩
    · exact a5.c 9 k (by omega) (by omega)
    · exact (a5.r 31 (by omega) (by omega)).trans h31
  · right
    left
    have e1 : ¬ zg_i R 0 5 + nI G ≤ 400 := by
      rw [hv.gR, y_add]
      intro q
      have := (y_le (b := 400) (by omega) (by omega)).mp q
      omega
    have e2 : g_R_fail (-5) (nI a) R = some (zp_i (zp_i R 0 30 (nI a)) 0 29 (-5)) := r_fail1 _ _ h.f
    refine ⟨_, _, ?_, h4, ?_, h.fail (w := -5) (nI a) (by decide)⟩
    · simp only [g_Unp_givePlain, h16, h3, o_sb, ↓reduceIte, not_true_eq_false]
    · simp only [g_R_plainChunk, e1, h.nR, e2, o_sb, ↓reduceIte]
  · right
    right
    refine ⟨D', R', ?_, h4, h5⟩
    simp only [g_Unp_givePlain, h16, h3, o_sb, ↓reduceIte, not_true_eq_false]
