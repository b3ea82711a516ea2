theorem s_sort (x : Int32) : ((x = 0 ∨ x = 1 ∨ x = 4) ∧ (∀ D, g_P_isSort x D = some 1) ∧ (∀ R, g_R_isSort x R = some 1)) ∨ ((∀ D, g_P_isSort x D = some 0) ∧ (∀ R, g_R_isSort x R = some 0)) := by
  by_cases h0 : x = 0
  · left
    subst h0
    exact ⟨Or.inl rfl, fun _ => rfl, fun _ => rfl⟩
  · by_cases h1 : x = 1
    · left
      subst h1
      exact ⟨Or.inr (Or.inl rfl), fun _ => rfl, fun _ => rfl⟩
    · by_cases h4 : x = 4
      · left
        subst h4
        exact ⟨Or.inr (Or.inr rfl), fun _ => rfl, fun _ => rfl⟩
      · right
        exact ⟨fun D => by simp only [Option.bind_some, ↓reduceIte, not_true_eq_false, not_false_eq_true, y_1, g_P_isSort, h0, h1, h4], fun R => by simp only [Option.bind_some, ↓reduceIte, not_true_eq_false, not_false_eq_true, y_1, g_R_isSort, h0, h1, h4]⟩
theorem s_props (x : Int32) : ((∀ D, g_P_areProperties x D = some 1) ∧ (∀ R, g_R_isProperties x R = some 1) ∧ ∃ p, p < 225 ∧ x = nI p ∧ p % 9 + p / 9 % 5 ≤ 3) ∨ ((∀ D, g_P_areProperties x D = some 0) ∧ (∀ R, g_R_isProperties x R = some 0)) := by
  by_cases h0 : x < 0
  · right
    exact ⟨fun D => by simp only [Option.bind_some, ↓reduceIte, not_true_eq_false, not_false_eq_true, y_1, g_P_areProperties, h0], fun R => by simp only [Option.bind_some, ↓reduceIte, not_true_eq_false, not_false_eq_true, y_1, g_R_isProperties, h0]⟩
  · obtain ⟨p, hp, rfl⟩ := y_ex h0
    by_cases h1 : p < 225
    · have l1 : nI p < 225 := (y_lt (b := 225) hp (by omega)).mpr h1
      have l2 : ¬ (225 : Int32) ≤ nI p := fun q => by have := (y_le (a := 225) (by omega) hp).mp q; omega
      have e : zo_rem (nI p) 9 + zo_rem (nI p / 9) 5 = nI (p % 9 + p / 9 % 5) := by
        rw [show (9 : Int32) = nI 9 from rfl, y_rem (by omega) (by omega), y_div (by omega) (by omega), show (5 : Int32) = nI 5 from rfl, y_rem (by omega) (by omega), y_add]
      by_cases h2 : p % 9 + p / 9 % 5 ≤ 3
      · left
        have l3 : ¬ (3 : Int32) < nI (p % 9 + p / 9 % 5) := fun q => by have := (y_lt (a := 3) (by omega) (by omega)).mp q; omega
        have l4 : ¬ (4 : Int32) ≤ nI (p % 9 + p / 9 % 5) := fun q => by have := (y_le (a := 4) (by omega) (by omega)).mp q; omega
        exact ⟨fun D => by simp only [Option.bind_some, ↓reduceIte, not_true_eq_false, not_false_eq_true, y_1, g_P_areProperties, h0, l1, e, l3], fun R => by simp only [Option.bind_some, ↓reduceIte, not_true_eq_false, not_false_eq_true, y_1, g_R_isProperties, h0, l2, e, l4], p, h1, rfl, h2⟩
      · right
        have l3 : (3 : Int32) < nI (p % 9 + p / 9 % 5) := (y_lt (a := 3) (by omega) (by omega)).mpr (by omega)
        have l4 : (4 : Int32) ≤ nI (p % 9 + p / 9 % 5) := (y_le (a := 4) (by omega) (by omega)).mpr (by omega)
        exact ⟨fun D => by simp only [Option.bind_some, ↓reduceIte, not_true_eq_false, not_false_eq_true, y_1, g_P_areProperties, h0, l1, e, l3], fun R => by simp only [Option.bind_some, ↓reduceIte, not_true_eq_false, not_false_eq_true, y_1, g_R_isProperties, h0, l2, e, l4]⟩
    · right
      have l1 : ¬ nI p < 225 := fun q => h1 ((y_lt (b := 225) hp (by omega)).mp q)
      have l2 : (225 : Int32) ≤ nI p := (y_le (a := 225) (by omega) hp).mpr (by omega)
      exact ⟨fun D => by simp only [Option.bind_some, ↓reduceIte, not_true_eq_false, not_false_eq_true, y_1, g_P_areProperties, h0, l1], fun R => by simp only [Option.bind_some, ↓reduceIte, not_true_eq_false, not_false_eq_true, y_1, g_R_isProperties, h0, l2]⟩
theorem s_pack0 {m : Nat} {D R : zx_D} (h : zI 0 m D R) (ln pp : Nat) (x1 x2 x3 : Int32) : ∃ q q', g_P_pack ln pp x1 x2 x3 D = some q ∧ g_R_pack x1 x2 x3 R = some q' ∧ q.1 = q'.1 := by
  have z4 : ¬ (1 : Int32) = 0 := by decide
  rcases s_sort x1 with ⟨hs, i1, i2⟩ | ⟨i1, i2⟩
  · rcases s_props x2 with ⟨p1, p2, -⟩ | ⟨p1, p2⟩
    · by_cases h1 : x3 < 1
      · exact ⟨(-3, ln, pp, D), (-3, R), by simp only [Option.bind_some, ↓reduceIte, not_true_eq_false, not_false_eq_true, y_1, g_P_pack, i1, p1, z4, h1], by simp only [Option.bind_some, ↓reduceIte, not_true_eq_false, not_false_eq_true, y_1, g_R_pack, i2, p2, z4, h1], rfl⟩
      · by_cases h4 : x3 ≤ 400
        · have hB : y_B x1 := by
            rcases hs with rfl | rfl | rfl
            · exact ⟨0, by omega, rfl⟩
            · exact ⟨1, by omega, rfl⟩
            · exact ⟨4, by omega, rfl⟩
          obtain ⟨D1, R1, a1, a2, a3, a4⟩ := w_begin x1 x2 x3 hB D R
          have n1 : zg_i D1 1 1 = 0 := by
            rw [a4.c 1 1 (by omega) (by omega)]
            exact h.pC
          have n2 : zg_i R1 0 1 = 0 := by
            rw [a4.r 1 (by omega)]
            exact h.pR
          have s1 : zg_i D1 17 5 = x1 := a4.c 17 5 (by omega) (by omega)
          have e1 : ∀ i, 1 ≤ i → i ≤ 4 → zg_i D1 22 i = 0 := fun i u v => by
            rw [a4.c 22 i (by omega) (by omega)]
            exact h.en i u v
          have l0 : (0 : Int32) ≤ 0 := by decide
          obtain ⟨b1, b2, b3, b4⟩ := w_app (b := 0) a3 ⟨0, by omega, rfl⟩ (by omega)
          have n3 := b4.c 1 1 (by omega) (by omega)
          have n4 := b4.r 1 (by omega)
          rw [n1] at n3
          rw [n2] at n4
          generalize zp_i (zp_i D1 19 12 0) 18 1 (nI (12 + 1)) = D2 at *
          generalize zp_i (zp_i R1 4 12 0) 0 7 (nI (12 + 1)) = R2 at *
          obtain ⟨D3, R3, c1, c2, c3, c4⟩ := w_num1 (v := 0) b3 (by omega) (by omega)
          have c1 : g_Pkg_appendNumber 0 D2 = some D3 := c1
          have c2 : g_R_writeVli 0 R2 = some R3 := c2
          have n5 : zg_i R3 0 1 = 0 := by rw [c4.r 1 (by omega), n4]
          obtain ⟨w', D4, R4, d1, d2, d3, d4, d5, d6, d7⟩ := w_zero c3 (s := 12) (by omega) (by omega)
          have hw' : w' = 16 := by omega
          subst hw'
          obtain ⟨v, v1, v2⟩ := w_sum d6 (j := 12) (by omega)
          obtain ⟨D5, R5, f1, f2, f3, f4⟩ := w_low (v ^^^ 4294967295) 4 (by omega) d6 (by omega)
          have f1 : g_Row_appendLowFirst_18 (v ^^^ 4294967295) 4 D4 = some D5 := f1
          have f2 : g_R_writeNumber (v ^^^ 4294967295) 4 R4 = some R5 := f2
          have q20 : nI (16 + 4) - nI 12 = nI 8 := y_sub (by omega)
          have I1 : g_Pkg_writeIndex D1 = some (zp_i D5 17 9 (nI 8)) := by
            simp only [g_Pkg_writeIndex, b1, n3, l0, c1, a3.sC, d4, d6.sC, v1, f1, f3.sC, q20, Option.bind_some, ↓reduceIte]
          have I2 : g_R_writeSum (nI 12) R4 = some R5 := by
            simp only [g_R_writeSum, v2, f2, Option.bind_some]
          have h5 : zWo 20 (zp_i D5 17 9 (nI 8)) R5 := ⟨f3.hw, f3.sC, f3.oC, f3.sR, f3.bs⟩
          have s5 : zg_i (zp_i D5 17 9 (nI 8)) 17 5 = x1 := by
            rw [y_gi, if_neg (by omega), f4.c 17 5 (by omega) (by omega), d7.c 17 5 (by omega) (by omega), c4.c 17 5 (by omega) (by omega), b4.c 17 5 (by omega) (by omega), s1]
          have e5 : ∀ i, 1 ≤ i → i ≤ 4 → zg_i (zp_i D5 17 9 (nI 8)) 22 i = 0 := fun i u v => by
            rw [y_gi, if_neg (by omega), f4.c 22 i (by omega) (by omega), d7.c 22 i (by omega) (by omega), c4.c 22 i (by omega) (by omega), b4.c 22 i (by omega) (by omega), e1 i u v]
          obtain ⟨D6, R6, g1, g2, g3, g4⟩ := w_end (qv := 1) h5 (by omega) (by omega) hB rfl s5 e5
          have g2 : r_pk3 x1 1 R5 = some R6 := g2
          have qq : nI 8 / 4 - 1 = 1 := by decide
          have A1 := a2
          unfold r_pk1 at A1
          obtain ⟨y5, w5, A1⟩ := zk_bind A1
          obtain ⟨y6, w6, A1⟩ := zk_bind A1
          obtain ⟨y7, w7, A1⟩ := zk_bind A1
          have G2 := g2
          unfold r_pk3 at G2
          obtain ⟨z5, x5, G2⟩ := zk_bind G2
          obtain ⟨z6, x6, G2⟩ := zk_bind G2
          obtain ⟨z7, x7, G2⟩ := zk_bind G2
          obtain ⟨z8, x8, G2⟩ := zk_bind G2
          obtain ⟨z9, x9, G2⟩ := zk_bind G2
          obtain ⟨z10, x10, G2⟩ := zk_bind G2
          have l640 : nI (20 + 12) ≤ 640 := by decide
          have l640b : ¬ (640 : Int32) < nI (20 + 12) := by decide
          have c640 : ¬ 0 < (0 : Int32) ∧ ¬ 0 < (0 : Int32) ∧ ¬ nI (20 + 12) < (0 : Int32) ∧ zn 0 + zn (nI (20 + 12)) ≤ 640 ∧ zn 0 + zn (nI (20 + 12)) ≤ 640 := by decide
          have R293 : ∃ R7, g_R_pack_293 10000 0 (zp_i R6 0 3 (nI (20 + 12))) = some R7 ∧ zg_i R7 0 3 = nI (20 + 12) := by
            have key : ∀ (j k i : Nat) (E : zx_D), i + j = 32 → j < k → zg_i E 0 7 = nI 32 → ∃ E', g_R_pack_293 k (nI i) E = some E' ∧ zg_i E' 0 3 = zg_i E 0 3 := by
              intro j
              induction j with
              | zero =>
                intro k i E hi hk hE
                match k, hk with
                | k + 1, _ =>
                  have hi32 : i = 32 := by omega
                  subst hi32
                  have l : nI 32 ≤ nI 32 := Int32.le_refl _
                  exact ⟨E, by simp only [Option.bind_some, ↓reduceIte, not_true_eq_false, not_false_eq_true, y_1, g_R_pack_293, hE, l], rfl⟩
              | succ j ih =>
                intro k i E hi hk hE
                match k, hk with
                | k + 1, hk =>
                  have l : ¬ nI 32 ≤ nI i := fun q => by have := (y_le (by omega) (by omega)).mp q; omega
                  have z1 : zk_in (nI i) 640 = true := y_in (by omega) (by omega)
                  obtain ⟨E', w1, w2⟩ := ih k (i + 1) (zp_i E 2 (zn (nI i)) (zg_i E 4 (zn (nI i)))) (by omega) (by omega) (by rw [y_gi, if_neg (by omega)]; exact hE)
                  refine ⟨E', ?_, by rw [w2, y_gi, if_neg (by omega)]⟩
                  simp only [Option.bind_some, ↓reduceIte, not_true_eq_false, not_false_eq_true, y_1, g_R_pack_293, hE, l, z1]
                  exact w1
            obtain ⟨E', w1, w2⟩ := key 32 10000 0 (zp_i R6 0 3 (nI (20 + 12))) (by omega) (by omega) g3.sR
            exact ⟨E', w1, w2⟩
          obtain ⟨R7, r1, r2⟩ := R293
          have q8 := a3.sR
          have hov := g3.oC
          have B3 : ∃ q11, g_Row_become_3_18 D6 = some q11 ∧ zg_i q11 3 1 = nI (20 + 12) := by
            unfold g_Row_become_3_18
            rw [g3.sC, if_neg l640b, if_pos c640]
            exact ⟨_, rfl, rfl⟩
          obtain ⟨q11, y1, y2⟩ := B3
          refine ⟨(nI (20 + 12), ln, 1, q11), (nI (20 + 12), R7), ?_, ?_, rfl⟩
          · simp only [g_P_pack, i1, z4, p1, h1, h4, a1, n1, l0, I1, g1, hov, y1, y2, Option.bind_some, ↓reduceIte]
          · simp only [g_R_pack, i2, z4, p2, h1, h4, w5, w6, w7, A1, n2, l0, b2, n4, c2, n5, q8, d5, I2, f3.sR, q20, qq, x5, x6, x7, x8, x9, x10, G2, g3.sR, l640, r1, r2, Option.bind_some, ↓reduceIte]
        · exact ⟨(-3, ln, pp, D), (-3, R), by simp only [Option.bind_some, ↓reduceIte, not_true_eq_false, not_false_eq_true, y_1, g_P_pack, i1, p1, z4, h1, h4], by simp only [Option.bind_some, ↓reduceIte, not_true_eq_false, not_false_eq_true, y_1, g_R_pack, i2, p2, z4, h1, h4], rfl⟩
    · exact ⟨(-3, ln, pp, D), (-3, R), by simp only [Option.bind_some, ↓reduceIte, not_true_eq_false, not_false_eq_true, y_1, g_P_pack, i1, p1, z4], by simp only [Option.bind_some, ↓reduceIte, not_true_eq_false, not_false_eq_true, y_1, g_R_pack, i2, p2, z4], rfl⟩
  · exact ⟨(-3, ln, pp, D), (-3, R), by simp only [Option.bind_some, ↓reduceIte, not_true_eq_false, not_false_eq_true, y_1, g_P_pack, i1], by simp only [Option.bind_some, ↓reduceIte, not_true_eq_false, not_false_eq_true, y_1, g_R_pack, i2], rfl⟩
