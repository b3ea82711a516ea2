theorem c_f14 : ∀ (j k i : Nat) (D : zx_D), i + j = 11 → j < k → (∀ q, q < i → zg_i D 14 q = 0) → ∃ D', g_Arr_fill2_14_5 0 11 k (nI i) D = some D' ∧ (∀ q, q < 11 → zg_i D' 14 q = 0) ∧ (∀ p q, p ≠ 14 → zg_i D' p q = zg_i D p q) ∧ ∀ p q, zg_l D' p q = zg_l D p q
  | 0, k + 1, i, D, hi, _, h => by
    have l : (11 : Int32) ≤ nI i := (y_le (a := 11) (by omega) (by omega)).mpr (by omega)
    exact ⟨D, by simp only [Option.bind_some, ↓reduceIte, not_true_eq_false, not_false_eq_true, y_1, g_Arr_fill2_14_5, l], fun q hq => h q (by omega), fun _ _ _ => rfl, fun _ _ => rfl⟩
  | j + 1, k + 1, i, D, hi, hk, h => by
    have l : ¬ (11 : Int32) ≤ nI i := fun q => by have := (y_le (a := 11) (by omega) (by omega)).mp q; omega
    have z1 : zk_in (nI i) 11 = true := y_in (by omega) (by omega)
    have z2 : zn (nI i) = i := y_zn (by omega)
    obtain ⟨D', u1, u2, u3, u4⟩ := c_f14 j k (i + 1) (zp_i D 14 i 0) (by omega) (by omega) (fun q hq => by
      rw [y_gi]
      by_cases e : q = i
      · rw [if_pos ⟨rfl, e⟩]
      · rw [if_neg (fun t => e t.2)]
        exact h q (by omega))
    refine ⟨D', ?_, u2, fun p q hp => ?_, fun p q => ?_⟩
    · simp only [Option.bind_some, ↓reduceIte, not_true_eq_false, not_false_eq_true, y_1, g_Arr_fill2_14_5, l, z1, z2]
      exact u1
    · rw [u3 p q hp, y_gi, if_neg (fun t => hp t.1)]
    · rw [u4]
      rfl
theorem r_f9 : ∀ (j k i : Nat) (R : zx_D), i + j = 11 → j < k → (∀ q, q < i → zg_i R 9 q = 0) → ∃ R', g_R_unpack_2 k (nI i) R = some R' ∧ (∀ q, q < 11 → zg_i R' 9 q = 0) ∧ (∀ p q, p ≠ 9 → zg_i R' p q = zg_i R p q) ∧ ∀ p q, zg_l R' p q = zg_l R p q
  | 0, k + 1, i, D, hi, _, h => by
    have l : (11 : Int32) ≤ nI i := (y_le (a := 11) (by omega) (by omega)).mpr (by omega)
    exact ⟨D, by simp only [Option.bind_some, ↓reduceIte, not_true_eq_false, not_false_eq_true, y_1, g_R_unpack_2, l], fun q hq => h q (by omega), fun _ _ _ => rfl, fun _ _ => rfl⟩
  | j + 1, k + 1, i, D, hi, hk, h => by
    have l : ¬ (11 : Int32) ≤ nI i := fun q => by have := (y_le (a := 11) (by omega) (by omega)).mp q; omega
    have z1 : zk_in (nI i) 11 = true := y_in (by omega) (by omega)
    have z2 : zn (nI i) = i := y_zn (by omega)
    obtain ⟨D', u1, u2, u3, u4⟩ := r_f9 j k (i + 1) (zp_i D 9 i 0) (by omega) (by omega) (fun q hq => by
      rw [y_gi]
      by_cases e : q = i
      · rw [if_pos ⟨rfl, e⟩]
      · rw [if_neg (fun t => e t.2)]
        exact h q (by omega))
    refine ⟨D', ?_, u2, fun p q hp => ?_, fun p q => ?_⟩
    · simp only [Option.bind_some, ↓reduceIte, not_true_eq_false, not_false_eq_true, y_1, g_R_unpack_2, l, z1, z2]
      exact u1
    · rw [u3 p q hp, y_gi, if_neg (fun t => hp t.1)]
    · rw [u4]
      rfl
def r_un0 (q1 : zx_D) : zx_D := zp_i (zp_i (zp_i (zp_i (zp_l (zp_l (zp_i q1 0 38 (zg_i q1 0 37)) 0 39 (-1)) 0 40 (-1)) 0 5 0) 0 29 0) 0 30 (-1)) 0 32 0
theorem s_ubegin {n m : Nat} {D R : zx_D} (h : zI n m D R) : ∃ D1 q1, g_Unp_begin_3 D = some D1 ∧ g_R_unpack_2 10000 0 R = some q1 ∧ zS n m 0 0 m 0 D1 (zp_i (r_un0 q1) 0 28 0) := by
  have hC : g_Unp_begin_3 D = (g_Arr_fill2_14 0 (zp_i (zp_i (zp_i (zp_i (zp_i (zp_i (zp_i D 12 1 (zg_i D 3 1)) 12 2 (zg_i D 3 1)) 12 3 0) 12 4 0) 12 5 (-1)) 10 1 0) 10 2 0)).bind fun q3 => some (zp_l (zp_l (zp_i q3 5 8 0) 5 10 (-1)) 5 11 (-1)) := rfl
  have n3 := h.kC
  rw [n3] at hC
  have k1 : ∀ p k, p ≠ 12 → p ≠ 10 → zg_i (zp_i (zp_i (zp_i (zp_i (zp_i (zp_i (zp_i D 12 1 (nI m)) 12 2 (nI m)) 12 3 0) 12 4 0) 12 5 (-1)) 10 1 0) 10 2 0) p k = zg_i D p k := by
    intro p k h1 h2
    simp [y_gi, h1, h2]
  have k2 : ∀ k, zg_i (zp_i (zp_i (zp_i (zp_i (zp_i (zp_i (zp_i D 12 1 (nI m)) 12 2 (nI m)) 12 3 0) 12 4 0) 12 5 (-1)) 10 1 0) 10 2 0) 12 k = zg_i (zp_i (zp_i (zp_i (zp_i (zp_i D 12 1 (nI m)) 12 2 (nI m)) 12 3 0) 12 4 0) 12 5 (-1)) 12 k := fun k => rfl
  have k3 : zg_i (zp_i (zp_i (zp_i (zp_i (zp_i (zp_i (zp_i D 12 1 (nI m)) 12 2 (nI m)) 12 3 0) 12 4 0) 12 5 (-1)) 10 1 0) 10 2 0) 10 1 = 0 := rfl
  have k4 : ∀ k, zg_i (zp_i (zp_i (zp_i (zp_i (zp_i D 12 1 (nI m)) 12 2 (nI m)) 12 3 0) 12 4 0) 12 5 (-1)) 12 k = zg_i (zp_i (zp_i (zp_i (zp_i (zp_i D 12 1 (nI m)) 12 2 (nI m)) 12 3 0) 12 4 0) 12 5 (-1)) 12 k := fun _ => rfl
  have k5 : ∀ p k, zg_l (zp_i (zp_i (zp_i (zp_i (zp_i (zp_i (zp_i D 12 1 (nI m)) 12 2 (nI m)) 12 3 0) 12 4 0) 12 5 (-1)) 10 1 0) 10 2 0) p k = zg_l D p k := fun _ _ => rfl
  have c121 : zg_i (zp_i (zp_i (zp_i (zp_i (zp_i (zp_i (zp_i D 12 1 (nI m)) 12 2 (nI m)) 12 3 0) 12 4 0) 12 5 (-1)) 10 1 0) 10 2 0) 12 1 = nI m := rfl
  have c122 : zg_i (zp_i (zp_i (zp_i (zp_i (zp_i (zp_i (zp_i D 12 1 (nI m)) 12 2 (nI m)) 12 3 0) 12 4 0) 12 5 (-1)) 10 1 0) 10 2 0) 12 2 = nI m := rfl
  have c123 : zg_i (zp_i (zp_i (zp_i (zp_i (zp_i (zp_i (zp_i D 12 1 (nI m)) 12 2 (nI m)) 12 3 0) 12 4 0) 12 5 (-1)) 10 1 0) 10 2 0) 12 3 = 0 := rfl
  have c124 : zg_i (zp_i (zp_i (zp_i (zp_i (zp_i (zp_i (zp_i D 12 1 (nI m)) 12 2 (nI m)) 12 3 0) 12 4 0) 12 5 (-1)) 10 1 0) 10 2 0) 12 4 = 0 := rfl
  have c125 : zg_i (zp_i (zp_i (zp_i (zp_i (zp_i (zp_i (zp_i D 12 1 (nI m)) 12 2 (nI m)) 12 3 0) 12 4 0) 12 5 (-1)) 10 1 0) 10 2 0) 12 5 = -1 := rfl
  generalize zp_i (zp_i (zp_i (zp_i (zp_i (zp_i (zp_i D 12 1 (nI m)) 12 2 (nI m)) 12 3 0) 12 4 0) 12 5 (-1)) 10 1 0) 10 2 0 = D0 at *
  obtain ⟨D1, u1, u2, u3, u4⟩ := c_f14 11 10000 0 D0 (by omega) (by omega) (fun q hq => absurd hq (Nat.not_lt_zero q))
  have u1 : g_Arr_fill2_14_5 0 11 10000 0 D0 = some D1 := u1
  obtain ⟨q1, w1, w2, w3, w4⟩ := r_f9 11 10000 0 R (by omega) (by omega) (fun q hq => absurd hq (Nat.not_lt_zero q))
  have w1 : g_R_unpack_2 10000 0 R = some q1 := w1
  have e14 : ∀ p k, p ≠ 12 → p ≠ 10 → p ≠ 14 → zg_i D1 p k = zg_i D p k := fun p k h1 h2 h3 => by rw [u3 p k h3, k1 p k h1 h2]
  refine ⟨zp_l (zp_l (zp_i D1 5 8 0) 5 10 (-1)) 5 11 (-1), q1, by rw [hC, g_Arr_fill2_14, u1]; rfl, w1, ⟨⟨h.hn, h.hm, ?_, ?_, fun i hi => ?_, ?_, ?_, fun i hi => ?_, ?_, ?_, ?_, ?_, ?_, rfl, rfl, ?_, fun i h1 h2 => ?_, fun i h1 h2 => ?_, by omega, ?_, rfl, fun i hi => absurd hi (Nat.not_lt_zero i), rfl, ?_, fun i hi => absurd hi (Nat.not_lt_zero i)⟩, rfl, ?_, rfl, ?_, Nat.zero_le _, Nat.le_refl _⟩⟩
  · exact (e14 1 1 (by omega) (by omega) (by omega)).trans h.pC
  · exact (w3 0 1 (by omega)).trans h.pR
  · have t := h.pB i hi
    have a1 : zg_i (zp_l (zp_l (zp_i D1 5 8 0) 5 10 (-1)) 5 11 (-1)) 2 i = zg_i D 2 i := e14 2 i (by omega) (by omega) (by omega)
    have a2 : zg_i (zp_i (r_un0 q1) 0 28 0) 1 i = zg_i R 1 i := w3 1 i (by omega)
    rw [a1, a2]
    exact t
  · exact (e14 3 1 (by omega) (by omega) (by omega)).trans h.kC
  · exact (w3 0 3 (by omega)).trans h.kR
  · have t := h.kB i hi
    have a1 : zg_i (zp_l (zp_l (zp_i D1 5 8 0) 5 10 (-1)) 5 11 (-1)) 4 i = zg_i D 4 i := e14 4 i (by omega) (by omega) (by omega)
    have a2 : zg_i (zp_i (r_un0 q1) 0 28 0) 2 i = zg_i R 2 i := w3 2 i (by omega)
    rw [a1, a2]
    exact t
  · exact (u3 12 1 (by omega)).trans c121
  · exact (u3 12 4 (by omega)).trans c124
  · exact (u3 12 5 (by omega)).trans c125
  · have a1 : zg_i (zp_l (zp_l (zp_i D1 5 8 0) 5 10 (-1)) 5 11 (-1)) 5 9 = zg_i D 5 9 := e14 5 9 (by omega) (by omega) (by omega)
    have a2 : zg_i (zp_i (r_un0 q1) 0 28 0) 0 37 = zg_i R 0 37 := w3 0 37 (by omega)
    rw [a1, a2]
    exact h.wa
  · rfl
  · exact (w2 0 (by omega)).symm
  · have a1 : zg_i (zp_l (zp_l (zp_i D1 5 8 0) 5 10 (-1)) 5 11 (-1)) 14 i = 0 := u2 i (by omega)
    have a2 : zg_i (zp_i (r_un0 q1) 0 28 0) 9 i = 0 := w2 i (by omega)
    rw [a1, a2]
  · exact (e14 22 i (by omega) (by omega) (by omega)).trans (h.en i h1 h2)
  · exact (u3 10 1 (by omega)).trans k3
  · exact u2 10 (by omega)
  · exact (u3 12 3 (by omega)).trans c123
  · exact (u3 12 2 (by omega)).trans c122
theorem s_unpack0 {n m : Nat} {D R : zx_D} (h : zI n m D R) (hm : m < 6) (sd ln : Nat) : ∃ q q', g_P_unpack sd ln D = some q ∧ g_R_unpack R = some q' ∧ q.1 = q'.1 := by
  obtain ⟨D1, q1, u1, u2, u3⟩ := s_ubegin h
  rcases s_start u3 with ⟨D', R', w1, w2, w3, w4, w5, w6⟩ | ⟨D', R', w2, w3, w4⟩
  · omega
  · have c1 : g_Unp_comesBlock D' = some (0, D') := by simp only [Option.bind_some, ↓reduceIte, not_true_eq_false, not_false_eq_true, y_1, g_Unp_comesBlock, c_has0 _ w4.c]
    have c2 : g_P_unpack_20 10000 0 sd ln D' = some (sd, ln, D') := by
      have l : ¬ (640 : Int32) ≤ 0 := by decide
      rw [g_P_unpack_20, if_neg l, c1]
      simp only [Option.bind_some, ↓reduceIte, not_true_eq_false, not_false_eq_true, y_1]
    have r2 : g_R_unpack_67 10000 R' = some R' := by rw [g_R_unpack_67, if_pos w4.f]
    refine ⟨(zg_i D' 12 4, sd, ln, D'), (zg_i R' 0 29, R'), ?_, ?_, w4.v.fa⟩
    · simp only [Option.bind_some, ↓reduceIte, not_true_eq_false, not_false_eq_true, y_1, g_P_unpack, u1, w2, c2, c_idx0 w4.c, c_end0 w4.c, c_snd0 w4.c]
    · have f := w4.f
      have w3 : g_R_begin (zp_i (zp_i (zp_i (zp_i (zp_l (zp_l (zp_i q1 0 38 (zg_i q1 0 37)) 0 39 (-1)) 0 40 (-1)) 0 5 0) 0 29 0) 0 30 (-1)) 0 32 0) = some R' := w3
      simp only [g_R_unpack, u2, w3, r2, Option.bind_some]
      rw [if_pos f, Option.bind_some, if_neg f]
