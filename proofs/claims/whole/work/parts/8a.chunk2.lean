theorem r_pre {c g G : Nat} {R : zx_D} (hc : c < 256) (g5 : zg_i R 0 5 = nI g) (hgG : g + G ≤ 400) (hb : c < 192 → zg_i R 0 36 = 0) : ∃ R4, (∀ x2, g_R_coded (nI G) x2 (nI c) R = r_cod (nI G) x2 R4) ∧ (∀ p k, p ≠ 5 → ¬ (p = 0 ∧ (k = 12 ∨ k = 23 ∨ k = 35 ∨ k = 36)) → zg_i R4 p k = zg_i R p k) ∧ (∀ k, k < 13 ∨ 16 < k → zg_l R4 0 k = zg_l R 0 k) ∧ zg_i R4 0 36 = 0 ∧
    (c < 224 → zg_i R4 0 23 = zg_i R 0 23 ∧ zg_i R4 0 35 = zg_i R 0 35) ∧ (224 ≤ c → zg_i R4 0 23 = nI g ∧ zg_i R4 0 35 = 1) ∧
    (c < 160 → (∀ k, zg_i R4 5 k = zg_i R 5 k) ∧ (∀ k, zg_l R4 0 k = zg_l R 0 k) ∧ zg_i R4 0 12 = zg_i R 0 12) ∧
    (160 ≤ c → (∀ k, k < 8328 → zg_i R4 5 k = 1024) ∧ (∀ k, 13 ≤ k → k ≤ 16 → zg_l R4 0 k = 1) ∧ zg_i R4 0 12 = 0) := by
  have l224 : (nI c < 224) = (c < 224) := propext (y_lt (b := 224) (by omega) (by omega))
  have l160 : (nI c < 160) = (c < 160) := propext (y_lt (b := 160) (by omega) (by omega))
  have l192 : ((192 : Int32) ≤ nI c) = (192 ≤ c) := propext (y_le (a := 192) (by omega) (by omega))
  have e1 : zg_i R 0 5 + nI G ≤ 400 := by
    rw [g5, y_add]
    exact (y_le (b := 400) (by omega) (by omega)).mpr hgG
  obtain ⟨R1, hR1, q1, q2, q3, q4, q5⟩ : ∃ R1, ((if nI c < 224 then some R else some (zp_i (zp_i R 0 35 1) 0 23 (zg_i R 0 5))) : Option zx_D) = some R1 ∧ (∀ p k, ¬ (p = 0 ∧ (k = 23 ∨ k = 35)) → zg_i R1 p k = zg_i R p k) ∧ (∀ k, zg_l R1 0 k = zg_l R 0 k) ∧ (c < 224 → zg_i R1 0 23 = zg_i R 0 23 ∧ zg_i R1 0 35 = zg_i R 0 35) ∧ (224 ≤ c → zg_i R1 0 23 = nI g ∧ zg_i R1 0 35 = 1) ∧ zg_i R1 0 36 = zg_i R 0 36 := by
    simp only [l224]
    by_cases t : c < 224
    · exact ⟨R, if_pos t, fun _ _ _ => rfl, fun _ => rfl, fun _ => ⟨rfl, rfl⟩, fun u => by omega, rfl⟩
    · refine ⟨_, if_neg t, fun p k hk => ?_, fun _ => rfl, fun u => by omega, fun _ => ⟨g5, rfl⟩, rfl⟩
      rw [y_gi, if_neg (by omega), y_gi, if_neg (by omega)]
  have e2 : ((if zg_i R1 0 36 = 0 then some 0 else if 192 ≤ nI c then some 0 else some 1) : Option Int32) = some 0 := by
    simp only [l192]
    by_cases t : zg_i R1 0 36 = 0
    · rw [if_pos t]
    · have : 192 ≤ c := by
        apply Nat.le_of_not_lt
        intro u
        exact t (q5.trans (hb u))
      rw [if_neg t, if_pos this]
  by_cases t : c < 160
  · refine ⟨zp_i R1 0 36 0, fun x2 => ?_, fun p k h1 h2 => ?_, fun k _ => q2 k, rfl, q3, q4, fun _ => ⟨fun k => q1 5 k (by omega), q2, q1 0 12 (by omega)⟩, fun u => by omega⟩
    · rw [r_coded_eq, if_pos e1, hR1, o_sb, e2, o_sb, if_pos (Or.inl rfl)]
      simp only [l160]
      rw [if_pos t, o_sb]
    · rw [y_gi, if_neg (by omega)]
      exact q1 p k (by omega)
  · obtain ⟨R4, a1, a2, a3, a4, a5, a6⟩ := r_anew (zp_i R1 0 36 0)
    refine ⟨R4, fun x2 => ?_, fun p k h1 h2 => ?_, fun k hk => (a6 k hk).trans (q2 k), a5 0 36 (by omega) (by omega), fun u => ⟨(a5 0 23 (by omega) (by omega)).trans (q3 u).1, (a5 0 35 (by omega) (by omega)).trans (q3 u).2⟩, fun u => ⟨(a5 0 23 (by omega) (by omega)).trans (q4 u).1, (a5 0 35 (by omega) (by omega)).trans (q4 u).2⟩, fun u => by omega, fun _ => ⟨a2, a3, a4⟩⟩
    · rw [r_coded_eq, if_pos e1, hR1, o_sb, e2, o_sb, if_pos (Or.inl rfl)]
      simp only [l160]
      rw [if_neg t, a1, o_sb, o_sb]
    · rw [a5 p k h1 (by omega), y_gi, if_neg (by omega)]
      exact q1 p k (by omega)
theorem zV_r {n m g b : Nat} {D R R' : zx_D} (h : zV n m g b D R) (hr : ∀ p k, p ≠ 5 → ¬ (p = 0 ∧ (k = 12 ∨ k = 23 ∨ k = 35 ∨ k = 36)) → zg_i R' p k = zg_i R p k) (hrl : ∀ k, k < 13 ∨ 16 < k → zg_l R' 0 k = zg_l R 0 k) : zV n m g b D R' := by
  refine ⟨h.hn, h.hm, h.pC, ?_, ?_, h.kC, ?_, ?_, h.sz, ?_, ?_, ?_, ?_, ?_, ?_, ?_, ?_, h.en, h.hg, h.gC, ?_, ?_, ?_, h.bC, ?_⟩
  · rw [hr _ _ (by omega) (by omega)]; exact h.pR
  · intro i hi; rw [hr _ _ (by omega) (by omega)]; exact h.pB i hi
  · rw [hr _ _ (by omega) (by omega)]; exact h.kR
  · intro i hi; rw [hr _ _ (by omega) (by omega)]; exact h.kB i hi
  · rw [hr _ _ (by omega) (by omega)]; exact h.fa
  · rw [hr _ _ (by omega) (by omega)]; exact h.wh
  · rw [hr _ _ (by omega) (by omega)]; exact h.wa
  · rw [hr _ _ (by omega) (by omega), hr _ _ (by omega) (by omega)]; exact h.lo
  · rw [hrl _ (by omega)]; exact h.kr
  · rw [hrl _ (by omega)]; exact h.kc
  · rw [hr _ _ (by omega) (by omega)]; exact h.c0
  · intro i h1 h2; rw [hr _ _ (by omega) (by omega)]; exact h.cs i h1 h2
  · rw [hr _ _ (by omega) (by omega)]; exact h.gR
  · intro i hi; rw [hr _ _ (by omega) (by omega)]; exact h.gB i hi
  · rw [hr _ _ (by omega) (by omega)]; exact h.bR
  · intro i hi; rw [hr _ _ (by omega) (by omega), hr _ _ (by omega) (by omega)]; exact h.bS i hi
theorem zV_c {n m g b : Nat} {D D' R : zx_D} (h : zV n m g b D R) (hc : ∀ p k, p ≠ 6 → p ≠ 7 → zg_i D' p k = zg_i D p k) (hl : ∀ p k, p ≠ 8 → zg_l D' p k = zg_l D p k) : zV n m g b D' R := by
  refine ⟨h.hn, h.hm, ?_, h.pR, ?_, ?_, h.kR, ?_, ?_, ?_, ?_, ?_, h.lo, ?_, ?_, ?_, ?_, ?_, h.hg, ?_, h.gR, ?_, h.bR, ?_, ?_⟩
  · rw [hc _ _ (by omega) (by omega)]; exact h.pC
  · intro i hi; rw [hc _ _ (by omega) (by omega)]; exact h.pB i hi
  · rw [hc _ _ (by omega) (by omega)]; exact h.kC
  · intro i hi; rw [hc _ _ (by omega) (by omega)]; exact h.kB i hi
  · rw [hc _ _ (by omega) (by omega)]; exact h.sz
  · rw [hc _ _ (by omega) (by omega)]; exact h.fa
  · rw [hc _ _ (by omega) (by omega)]; exact h.wh
  · rw [hc _ _ (by omega) (by omega)]; exact h.wa
  · rw [hl _ _ (by omega)]; exact h.kr
  · rw [hl _ _ (by omega)]; exact h.kc
  · rw [hc _ _ (by omega) (by omega)]; exact h.c0
  · intro i h1 h2; rw [hc _ _ (by omega) (by omega)]; exact h.cs i h1 h2
  · intro i h1 h2; rw [hc _ _ (by omega) (by omega)]; exact h.en i h1 h2
  · rw [hc _ _ (by omega) (by omega)]; exact h.gC
  · intro i hi; rw [hc _ _ (by omega) (by omega)]; exact h.gB i hi
  · rw [hc _ _ (by omega) (by omega)]; exact h.bC
  · intro i hi; rw [hl _ _ (by omega), hl _ _ (by omega)]; exact h.bS i hi
theorem s_cod2 {n m g b a f G M c : Nat} {D R : zx_D} (r1 r2 : Nat) (h : zS n m g b m a D R) (hc : c < 256) (hG1 : 1 ≤ G) (hG : G < 2 ^ 30) (hM1 : 1 ≤ M) (hM : M < 2 ^ 30) (h16 : zg_i D 9 16 = nI G) (h17 : zg_i D 9 17 = nI M) (h13 : zg_i D 9 13 = 0) (h14 : zg_i D 9 14 = 0) (h12 : zg_i D 9 12 = nI f) (hfg : f ≤ g) (hb : c < 192 → zg_i R 0 36 = 0) (hf1 : c < 224 → zg_i R 0 23 = nI f ∧ zg_i R 0 35 = 1) (hf2 : 224 ≤ c → f = g)
    (hm1 : c < 160 → zMd g f D R) (hm2 : 160 ≤ c → ∃ lc lp pb, lc + lp ≤ 3 ∧ pb ≤ 4 ∧ zg_i D 7 3 = nI lc ∧ zg_i D 7 4 = nI lp ∧ zg_i D 7 5 = nI pb ∧ zg_i R 0 9 = nI lc ∧ zg_i R 0 10 = nI lp ∧ zg_i R 0 11 = nI pb ∧ (∀ k, k < 2052 + 768 * 2 ^ (lc + lp) → zg_i D 6 k = 1024) ∧ (∀ k, k < 4 → zg_l D 8 k = 1) ∧ zg_i D 7 2 = 0) :
    (∃ D' R', a + M ≤ m ∧ g_Unp_giveCoded r1 r2 D = some (4, 5, D') ∧ g_R_has (nI M) R = some (1, R) ∧ g_R_coded (nI G) (nI M) (nI c) R = some R' ∧ zC n m (g + G) b (a + M) f D' R' ∧ zY D D' R R') ∨
    (∃ s1 s2 g' D' R', g_Unp_giveCoded r1 r2 D = some (s1, s2, D') ∧ g_R_has (nI M) R = some (1, R) ∧ g_R_coded (nI G) (nI M) (nI c) R = some R' ∧ zF n m g' b D' R') ∨
    (∃ s1 s2 D' R', g_Unp_giveCoded r1 r2 D = some (s1, s2, D') ∧ g_R_has (nI M) R = some (0, R') ∧ zF n m g b D' R') := by
  have z1 : ¬ (1 : Int32) = 0 := by decide
  have hv := h.v
  have hg := hv.hg
  rcases c_room h hG hM h16 with ⟨h1, h2, h3, h4⟩ | ⟨h1, h2, h3, h4⟩ | ⟨D', R', h3, h4, h5⟩
  · obtain ⟨R4, p1, p2, p3, p4, p5, p6, p7, p8⟩ := r_pre (c := c) (G := G) hc hv.gR h2 hb
    have hS4 : zS n m g b m a D R4 := ⟨zV_r hv p2 p3, (p2 0 29 (by omega) (by omega)).trans h.f, h.nC, (p2 0 28 (by omega) (by omega)).trans h.nR, h.eC, h.ae, h.em⟩
    have h23 : zg_i R4 0 23 = nI f := by
      by_cases t : c < 224
      · exact (p5 t).1.trans (hf1 t).1
      · rw [hf2 (by omega)]
        exact (p6 (by omega)).1
    have h35 : zg_i R4 0 35 = 1 := by
      by_cases t : c < 224
      · exact (p5 t).2.trans (hf1 t).2
      · exact (p6 (by omega)).2
    have hMd4 : zMd g f D R4 := by
      by_cases t : c < 160
      · obtain ⟨q1, q2, q3⟩ := p7 t
        refine (hm1 t).fr (Nat.le_refl _) (fun k => rfl) (fun k _ _ => rfl) (fun k => rfl) (fun k k1 k2 => ?_) q1 (fun k _ _ => q2 k)
        by_cases u : k = 12
        · rw [u]
          exact q3
        · exact p2 0 k (by omega) (by omega)
      · obtain ⟨lc, lp, pb, y1, y2, y3, y4, y5, y6, y7, y8, y9, y10, y11⟩ := hm2 (by omega)
        obtain ⟨q1, q2, q3⟩ := p8 (by omega)
        exact zMd_anew y1 y2 y3 y4 y5 ((p2 0 9 (by omega) (by omega)).trans y6) ((p2 0 10 (by omega) (by omega)).trans y7) ((p2 0 11 (by omega) (by omega)).trans y8) y9 q1 y10 q2 y11 q3
    have eC : g_Unp_giveCoded r1 r2 D = (g_Src_begin_4 (nI a) (nI (a + M)) D).bind fun q2 => (g_Mdl_useLine_5 q2).bind fun q3 => g_Unp_giveCoded_71 (nI (g + G)) 10000 0 q2 := by
      have e1 : nI a + nI M = nI (a + M) := y_add a M
      have e2 : nI g + nI G = nI (g + G) := y_add g G
      simp only [g_Unp_giveCoded, h17, h3, z1, h.nC, hv.gC, h16, e1, e2, o_sb, ↓reduceIte, not_false_eq_true]
    rw [eC, p1 (nI M)]
    rcases s_code hS4 hMd4 h12 h23 hfg h16 h17 hG1 h2 hM1 h1 with ⟨D', R', u1, u2, u3, u4, u5⟩ | ⟨g', D', R', u1, u2, u3⟩
    · left
      refine ⟨D', R', h1, u1, h4, u2, ⟨u3, Or.inr ⟨(u5.c 13).trans h13, (u5.r 35 (by omega)).trans h35, by omega, (u5.c 12).trans h12, (u5.r 23 (by omega)).trans h23, Or.inr ⟨(u5.c 14).trans h14, (u5.r 36 (by omega)).trans p4, u4⟩⟩⟩, ⟨fun k hk => u5.c k, u5.cl, (u5.r 31 (by omega)).trans (p2 0 31 (by omega) (by omega))⟩⟩
    · right
      left
      exact ⟨4, 5, g', D', R', u1, h4, u2, u3⟩
  · right
    left
    have e1 : ¬ zg_i R 0 5 + nI G ≤ 400 := by
      rw [hv.gR, y_add]
      intro q
      have := (y_le (b := 400) (by omega) (by omega)).mp q
      omega
    have e2 : g_R_fail (-5) (nI a) R = some (zp_i (zp_i R 0 30 (nI a)) 0 29 (-5)) := r_fail1 _ _ h.f
    refine ⟨r1, r2, g, _, _, ?_, h4, ?_, h.fail (w := -5) (nI a) (by decide)⟩
    · simp only [g_Unp_giveCoded, h17, h3, o_sb, ↓reduceIte, not_true_eq_false]
    · rw [r_coded_eq, if_neg e1, h.nR, e2, o_sb]
  · right
    right
    refine ⟨r1, r2, D', R', ?_, h4, h5⟩
    simp only [g_Unp_giveCoded, h17, h3, o_sb, ↓reduceIte, not_true_eq_false]
