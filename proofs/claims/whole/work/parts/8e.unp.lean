theorem s_upL {n m g b : Nat} {D R : zx_D} (h : zV n m g b D R) : ∀ (j k i : Nat) (E : zx_D), i + j = g → j < k → zg_i E 0 5 = nI g → (∀ q, zg_i E 3 q = zg_i R 3 q) → ∃ E', g_R_unpack_137 k (nI i) E = some E' ∧ (∀ q, i ≤ q → q < g → zg_i E' 1 q = zg_i R 3 q) ∧ (∀ q, q < i → zg_i E' 1 q = zg_i E 1 q) ∧ (∀ p q, p ≠ 1 → zg_i E' p q = zg_i E p q) ∧ (∀ p q, zg_l E' p q = zg_l E p q)
  | 0, k + 1, i, E, hi, _, h5, h3 => by
    have hg := h.hg
    refine ⟨E, ?_, fun q h1 h2 => by omega, fun _ _ => rfl, fun _ _ _ => rfl, fun _ _ => rfl⟩
    rw [g_R_unpack_137, h5, if_pos ((y_le (by omega) (by omega)).mpr (by omega))]
  | j + 1, k + 1, i, E, hi, hk, h5, h3 => by
    have hg := h.hg
    obtain ⟨E', a1, a2, a3, a4, a5⟩ := s_upL h j k (i + 1) (zp_i E 1 i (zg_i E 3 i)) (by omega) (by omega) h5 h3
    refine ⟨E', ?_, fun q h1 h2 => ?_, fun q hq => ?_, fun p q hp => ?_, a5⟩
    · rw [g_R_unpack_137, h5, if_neg (fun q => by have := (y_le (by omega) (by omega)).mp q; omega), if_pos (y_in (by omega) (by omega)), if_pos (y_in (by omega) (by omega)), y_zn (by omega), y_1]
      exact a1
    · by_cases t : q = i
      · rw [a3 q (by omega), y_gi, if_pos ⟨rfl, t⟩, h3, t]
      · exact a2 q (by omega) h2
    · rw [a3 q (by omega), y_gi, if_neg (by omega)]
    · rw [a4 p q hp, y_gi, if_neg (fun t => hp t.1)]
theorem s_become {n m g b : Nat} {D R : zx_D} (h : zV n m g b D R) : ∃ D' R', g_Row_become_1_10 D = some D' ∧ g_R_unpack_137 10000 0 (zp_i R 0 1 (zg_i R 0 5)) = some R' ∧ zI g m D' R' := by
  have hg := h.hg
  obtain ⟨R', a1, a2, a3, a4, a5⟩ := s_upL h g 10000 0 (zp_i R 0 1 (zg_i R 0 5)) (by omega) (by omega) h.gR (fun q => rfl)
  have a1 : g_R_unpack_137 10000 0 (zp_i R 0 1 (zg_i R 0 5)) = some R' := a1
  have e1 : (if 400 < zg_i D 10 1 then 400 else zg_i D 10 1) = nI g := by
    rw [h.gC]
    exact if_neg (show ¬ (400 : Int32) < nI g from fun q => by have := (y_lt (a := 400) (by omega) (by omega)).mp q; omega)
  have e2 : ¬ nI g < 0 := fun q => by have := (y_lt (b := 0) (by omega) (by omega)).mp q; omega
  have e3 : zn (nI g) = g := y_zn (by omega)
  have e4 : zn 0 = 0 := rfl
  have hb : g_Row_become_1_10 D = some (zp_a (zp_i D 1 1 (nI g)) 2 (va_cpy ((zp_i D 1 1 (nI g)).1 11) ((zp_i D 1 1 (nI g)).1 2) 0 0 g)) := by
    rw [g_Row_become_1_10]
    simp only [e1, e3, e4]
    rw [if_pos ⟨by decide, by decide, e2, by omega, by omega⟩]
  refine ⟨_, R', hb, a1, ?_⟩
  have hB : ∀ i, i < g → zg_i (zp_a (zp_i D 1 1 (nI g)) 2 (va_cpy ((zp_i D 1 1 (nI g)).1 11) ((zp_i D 1 1 (nI g)).1 2) 0 0 g)) 2 i = zg_i R' 1 i ∧ y_B (zg_i R' 1 i) := by
    intro i hi
    rw [y_ga, if_pos rfl, a2 i (by omega) hi]
    have e : va_cpy ((zp_i D 1 1 (nI g)).1 11) ((zp_i D 1 1 (nI g)).1 2) 0 0 g i = zg_i D 11 i := by
      unfold va_cpy
      rw [if_pos ⟨by omega, by omega⟩, show 0 + (i - 0) = i by omega]
      rfl
    rw [e]
    exact h.gB i hi
  have q0 : ∀ k, k ≠ 1 → zg_i R' 0 k = zg_i R 0 k := fun k hk => by rw [a4 0 k (by omega), y_gi, if_neg (by omega)]
  have qp : ∀ p k, p ≠ 0 → p ≠ 1 → zg_i R' p k = zg_i R p k := fun p k h1 h2 => by rw [a4 p k h2, y_gi, if_neg (fun t => h1 t.1)]
  have r01 : zg_i R' 0 1 = nI g := (a4 0 1 (by omega)).trans h.gR
  refine ⟨hg, h.hm, rfl, r01, hB, h.kC, (q0 3 (by omega)).trans h.kR, fun i hi => ?_, ?_, ?_, ?_, ?_, ?_, fun i h1 h2 => ?_, h.en⟩
  · rw [qp 2 i (by omega) (by omega)]
    exact h.kB i hi
  · rw [q0 30 (by omega)]
    exact h.wh
  · rw [q0 37 (by omega)]
    exact h.wa
  · rw [a5 0 39]
    exact h.kr
  · rw [a5 0 40]
    exact h.kc
  · rw [qp 9 0 (by omega) (by omega)]
    exact h.c0
  · rw [qp 9 i (by omega) (by omega)]
    exact h.cs i h1 h2
theorem s_unpack {n m : Nat} {D R : zx_D} (h : zI n m D R) (sd ln : Nat) : ∃ q q' n', g_P_unpack sd ln D = some q ∧ g_R_unpack R = some q' ∧ q.1 = q'.1 ∧ zI n' m q.2.2.2 q'.2 := by
  obtain ⟨D1, q1, u1, u2, u3⟩ := s_ubegin h
  have z1 : ¬ (1 : Int32) = 0 := by decide
  have key : ∀ D2 R2, g_Unp_readStart D1 = some D2 → g_R_begin (r_un0 q1) = some R2 → (∃ s1 s2 D3 R3, g_P_unpack_20 10000 0 sd ln D2 = some (s1, s2, D3) ∧ g_R_unpack_67 10000 R2 = some R3 ∧ zBl n m D3 R3) → ∃ q q' n', g_P_unpack sd ln D = some q ∧ g_R_unpack R = some q' ∧ q.1 = q'.1 ∧ zI n' m q.2.2.2 q'.2 := by
    intro D2 R2 w1 w2 w
    obtain ⟨s1, s2, D3, R3, t1, t2, t3⟩ := w
    have w2 : g_R_begin (zp_i (zp_i (zp_i (zp_i (zp_l (zp_l (zp_i q1 0 38 (zg_i q1 0 37)) 0 39 (-1)) 0 40 (-1)) 0 5 0) 0 29 0) 0 30 (-1)) 0 32 0) = some R2 := w2
    have fin : ∀ D5 D6 R6, g_Unp_readIndex D3 = some D5 → g_Unp_readEnd D5 = some D6 → ((if ¬ zg_i R3 0 29 = 0 then some R3 else (g_R_index R3).bind fun q5 => some q5) : Option zx_D) = some R6 → (∃ g b, (∃ a, zS n m g b m a D6 R6) ∨ zF n m g b D6 R6) → ∃ q q' n', g_P_unpack sd ln D = some q ∧ g_R_unpack R = some q' ∧ q.1 = q'.1 ∧ zI n' m q.2.2.2 q'.2 := by
      intro D5 D6 R6 x1 x2 x3 x4
      obtain ⟨g, b, x4⟩ := x4
      rcases x4 with ⟨a, x4⟩ | x4
      · obtain ⟨D7, R7, y1, y2, y3⟩ := s_become x4.v
        refine ⟨(zg_i D7 1 1, s1, s2, D7), (zg_i R7 0 1, R7), g, ?_, ?_, y3.pC.trans y3.pR.symm, y3⟩
        · simp only [g_P_unpack, u1, w1, t1, x1, x2, c_snd1 x4.c, z1, y1, o_sb, ↓reduceIte, not_false_eq_true]
        · rw [g_R_unpack, u2, o_sb, w2, o_sb, t2, o_sb, x3, o_sb, if_pos x4.f, y2, o_sb]
      · refine ⟨(zg_i D6 12 4, s1, s2, D6), (zg_i R6 0 29, R6), n, ?_, ?_, x4.v.fa, x4.v.zI⟩
        · simp only [g_P_unpack, u1, w1, t1, x1, x2, c_snd0 x4.c, o_sb, ↓reduceIte, not_true_eq_false]
        · rw [g_R_unpack, u2, o_sb, w2, o_sb, t2, o_sb, x3, o_sb, if_neg x4.f]
    rcases t3 with ⟨g, b, hF⟩ | ⟨g, b, a, hS, ha, hz, hb, so⟩ | ⟨g, b, R', hf, hx, hF⟩
    · exact fin D3 D3 R3 (c_idx0 hF.c) (c_end0 hF.c) (if_pos hF.f) ⟨g, b, Or.inr hF⟩
    · obtain ⟨D5, D6, R6, x1, x2, x3, x4⟩ := s_index hS ha hz hb so
      refine fin D5 D6 R6 x1 x2 ?_ ⟨g, b, ?_⟩
      · rw [if_neg (fun q => q hS.f), x3, o_sb]
      · rcases x4 with x4 | x4
        · exact Or.inl ⟨m, x4⟩
        · exact Or.inr x4
    · exact fin D3 D3 R' (c_idx0 hF.c) (c_end0 hF.c) (by rw [if_neg (fun q => q hf), hx, o_sb]) ⟨g, b, Or.inr hF⟩
  rcases s_start u3 with ⟨D2, R2, w1, w2, w3, w4, w5, w6⟩ | ⟨D2, R2, w2, w3, w4⟩
  · refine key D2 R2 w2 w3 ?_
    have := s_blocks (n := n) (m := m) 40 10000 10000 0 0 12 sd ln D2 R2 (by omega) (by omega) (by omega) w4 (by omega) w5 w6
    exact this
  · refine key D2 R2 w2 w3 ?_
    have c1 : g_Unp_comesBlock D2 = some (0, D2) := by
      simp only [g_Unp_comesBlock, c_has0 _ w4.c, o_sb, ↓reduceIte]
    refine ⟨sd, ln, D2, R2, ?_, by rw [g_R_unpack_67, if_pos w4.f], Or.inl ⟨0, 0, w4⟩⟩
    have l : ¬ (640 : Int32) ≤ 0 := by decide
    rw [g_P_unpack_20, if_neg l, c1, o_sb]
    exact if_pos rfl
