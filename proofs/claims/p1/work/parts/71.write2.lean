theorem y_B_ro {i : Nat} (h : i < 6) : y_B (ro_f i) := by
  have : i = 0 ∨ i = 1 ∨ i = 2 ∨ i = 3 ∨ i = 4 ∨ i = 5 := by omega
  rcases this with rfl | rfl | rfl | rfl | rfl | rfl
  · exact ⟨253, by omega, rfl⟩
  · exact ⟨55, by omega, rfl⟩
  · exact ⟨122, by omega, rfl⟩
  · exact ⟨88, by omega, rfl⟩
  · exact ⟨90, by omega, rfl⟩
  · exact ⟨0, by omega, rfl⟩
theorem w_magic (x1 x2 x3 : Int32) : ∀ (j k1 k2 i : Nat) (D R : zx_D), i + j = 6 → j < k1 → j < k2 → zWo i D R → ∃ D' R', g_Row_appendAll_18_23_3 0 6 k1 (nI i) D = some D' ∧ g_R_pack_37 x1 x2 x3 k2 (nI i) R = some R' ∧ zWo 6 D' R' ∧ zWq D D' R R'
  | 0, k1 + 1, k2 + 1, i, D, R, hi, _, _, h => by
    have hi6 : i = 6 := by omega
    subst hi6
    have l : (0 : Int32) + 6 ≤ nI 6 := by decide
    have l2 : (6 : Int32) ≤ nI 6 := by decide
    exact ⟨D, R, by simp only [Option.bind_some, ↓reduceIte, not_true_eq_false, not_false_eq_true, y_1, g_Row_appendAll_18_23_3, l], by simp only [Option.bind_some, ↓reduceIte, not_true_eq_false, not_false_eq_true, y_1, g_R_pack_37, l2], h, zWq_rfl⟩
  | j + 1, k1 + 1, k2 + 1, i, D, R, hi, h1, h2, h => by
    have l : ¬ (0 : Int32) + 6 ≤ nI i := fun q => by have := (y_le (a := 6) (by omega) (by omega)).mp q; omega
    have l2 : ¬ (6 : Int32) ≤ nI i := fun q => by have := (y_le (a := 6) (by omega) (by omega)).mp q; omega
    have z1 : zk_in (nI i) 6 = true := y_in (by omega) (by omega)
    have z2 : zn (nI i) = i := y_zn (by omega)
    obtain ⟨t1, t2, t3, t4⟩ := w_app h (y_B_ro (show i < 6 by omega)) (by omega)
    obtain ⟨D', R', u1, u2, u3, u4⟩ := w_magic x1 x2 x3 j k1 k2 (i + 1) _ _ (by omega) (by omega) (by omega) t3
    refine ⟨D', R', ?_, ?_, u3, t4.trans u4⟩
    · simp only [Option.bind_some, ↓reduceIte, not_true_eq_false, not_false_eq_true, y_1, g_Row_appendAll_18_23_3, l, z1, z2, t1]
      exact u1
    · simp only [Option.bind_some, ↓reduceIte, not_true_eq_false, not_false_eq_true, y_1, g_R_pack_37, l2, r_magic R (show i < 6 by omega), t2]
      exact u2
def r_pk1 (x1 x2 x3 : Int32) (D : zx_D) : Option zx_D :=
  (g_R_pack_37 x1 x2 x3 10000 0 (zp_i D 0 7 0)).bind fun q5 =>
  (g_R_write 0 q5).bind fun q6 =>
  (g_R_write x1 q6).bind fun q7 =>
  (g_R_writeSum 6 q7)
theorem w_begin (s p x3 : Int32) (hs : y_B s) (D R : zx_D) : ∃ D' R', g_Pkg_begin_1 s p D = some D' ∧ r_pk1 s p x3 R = some R' ∧ zWo 12 D' R' ∧ zWq (zp_i (zp_i D 17 5 s) 17 6 p) D' R R' := by
  have h0 : zWo 0 (zp_i (zp_i (zp_i (zp_i D 17 5 s) 17 6 p) 18 1 0) 18 2 0) (zp_i R 0 7 0) := ⟨by omega, rfl, rfl, rfl, fun i hi => absurd hi (Nat.not_lt_zero i)⟩
  have q0 : zWq (zp_i (zp_i D 17 5 s) 17 6 p) (zp_i (zp_i (zp_i (zp_i D 17 5 s) 17 6 p) 18 1 0) 18 2 0) R (zp_i R 0 7 0) := by
    refine ⟨fun p k a1 a2 => ?_, fun p k => rfl, fun k a1 => ?_, fun p k a1 a2 => ?_, fun p k => rfl⟩
    · rw [y_gi, if_neg (fun q => a1 q.1), y_gi, if_neg (fun q => a1 q.1)]
    · rw [y_gi, if_neg (fun q => a1 q.2)]
    · rw [y_gi, if_neg (fun q => a1 q.1)]
  have e5 : zg_i (zp_i (zp_i D 17 5 s) 17 6 p) 17 5 = s := rfl
  obtain ⟨D1, R1, u1, u2, u3, u4⟩ := w_magic s p x3 6 10000 10000 0 _ _ (by omega) (by omega) (by omega) h0
  have u1 : g_Row_appendAll_18_23_3 0 6 10000 0 (zp_i (zp_i (zp_i (zp_i D 17 5 s) 17 6 p) 18 1 0) 18 2 0) = some D1 := u1
  have u2 : g_R_pack_37 s p x3 10000 0 (zp_i R 0 7 0) = some R1 := u2
  obtain ⟨a1, a2, a3, a4⟩ := w_app (b := 0) u3 ⟨0, by omega, rfl⟩ (by omega)
  have f17 := ((q0.trans u4).trans a4).c 17 5 (by omega) (by omega)
  rw [e5] at f17
  generalize zp_i (zp_i D1 19 6 0) 18 1 (nI (6 + 1)) = D2 at *
  generalize zp_i (zp_i R1 4 6 0) 0 7 (nI (6 + 1)) = R2 at *
  obtain ⟨b1, b2, b3, b4⟩ := w_app (b := s) a3 hs (by omega)
  generalize zp_i (zp_i D2 19 (6 + 1) s) 18 1 (nI (6 + 1 + 1)) = D3 at *
  generalize zp_i (zp_i R2 4 (6 + 1) s) 0 7 (nI (6 + 1 + 1)) = R3 at *
  obtain ⟨v, v1, v2⟩ := w_sum b3 (j := 6) (by omega)
  have v1 : g_P_sumFour_19 6 8 D3 = some (v ^^^ 4294967295) := v1
  have v2 : g_R_writeSum_7 R3 10000 4294967295 6 = some v := v2
  obtain ⟨D4, R4, c1, c2, c3, c4⟩ := w_low (v ^^^ 4294967295) 4 (by omega) b3 (by omega)
  have c1 : g_Row_appendLowFirst_18 (v ^^^ 4294967295) 4 D3 = some D4 := c1
  have c2 : g_R_writeNumber (v ^^^ 4294967295) 4 R3 = some R4 := c2
  refine ⟨D4, R4, ?_, ?_, c3, q0.trans (u4.trans (a4.trans (b4.trans c4)))⟩
  · simp only [g_Pkg_begin_1, g_Row_clear_18, g_Row_appendAll_18_23, u1, a1, f17, b1, v1, c1, Option.bind_some]
  · simp only [r_pk1, u2, a2, b2, g_R_writeSum, v2, c2, Option.bind_some]
theorem w_zeroL (s : Nat) : ∀ (j i k1 k2 w : Nat) (D R : zx_D), i + j = 3 → j < k1 → j + 1 < k2 → zWo w D R → s ≤ w → w + 3 ≤ 640 + i → (w - s) % 4 = 0 ∨ 4 - (w - s) % 4 ≤ j →
    ∃ w' D' R', w ≤ w' ∧ w' < w + 4 ∧ (w' - s) % 4 = 0 ∧ g_Pkg_fillUp_2 (nI s) k1 (nI i) D = some D' ∧ g_R_writeZeros_0 (nI s) k2 R = some R' ∧ zWo w' D' R' ∧ zWq D D' R R'
  | j, i, k1 + 1, k2 + 1, w, D, R, hi, h1, h2, h, hs, hw, ht => by
    have hw6 := h.hw
    have hr : zo_rem (nI w - nI s) 4 = nI ((w - s) % 4) := by rw [y_sub hs]; exact y_rem (b := 4) (by omega) (by omega)
    by_cases ht0 : (w - s) % 4 = 0
    · have q : nI ((w - s) % 4) = 0 := by rw [ht0]; rfl
      refine ⟨w, D, R, Nat.le_refl _, by omega, ht0, ?_, ?_, h, zWq_rfl⟩
      · rw [g_Pkg_fillUp_2, h.sC, hr, if_pos q]
        split <;> rfl
      · rw [g_R_writeZeros_0, h.sR, hr, if_pos q]
    · have q : ¬ nI ((w - s) % 4) = 0 := fun q => ht0 ((y_eq (b := 0) (by omega) (by omega)).mp q)
      have e3 : ¬ (3 : Int32) ≤ nI i := fun q => by have := (y_le (a := 3) (by omega) (by omega)).mp q; omega
      obtain ⟨t1, t2, t3, t4⟩ := w_app (b := 0) h ⟨0, by omega, rfl⟩ (by omega)
      match j, ht with
      | 0, ht => omega
      | j + 1, ht =>
        obtain ⟨w', D', R', u1, u2, u3, u4, u5, u6, u7⟩ := w_zeroL s j (i + 1) k1 k2 (w + 1) _ _ (by omega) (by omega) (by omega) t3 (by omega) (by omega) (by omega)
        refine ⟨w', D', R', by omega, by omega, u3, ?_, ?_, u6, t4.trans u7⟩
        · rw [g_Pkg_fillUp_2, if_neg e3, h.sC, hr, if_neg q, t1, Option.bind_some, y_1, u4]
        · rw [g_R_writeZeros_0, h.sR, hr, if_neg q, t2, Option.bind_some, u5]
theorem r_wz {s : Int32} {R R' : zx_D} (h : g_R_writeZeros_0 s 10001 R = some R') : g_R_writeZeros s R = some R' := by
  rw [g_R_writeZeros_0] at h
  rw [g_R_writeZeros]
  revert h
  by_cases h1 : zo_rem (zg_i R 0 7 - s) 4 = 0
  · simp [h1]
  · simp only [h1, ↓reduceIte]
    intro h
    obtain ⟨q, e1, e2⟩ := zk_bind h
    rw [e1, Option.bind_some, e2, Option.bind_some]
theorem w_zero {w s : Nat} {D R : zx_D} (h : zWo w D R) (hs : s ≤ w) (hw : w + 3 ≤ 640) : ∃ w' D' R', w ≤ w' ∧ w' < w + 4 ∧ (w' - s) % 4 = 0 ∧ g_Pkg_fillUp (nI s) D = some D' ∧ g_R_writeZeros (nI s) R = some R' ∧ zWo w' D' R' ∧ zWq D D' R R' := by
  obtain ⟨w', D', R', u1, u2, u3, u4, u5, u6, u7⟩ := w_zeroL s 3 0 10000 10001 w D R rfl (by omega) (by omega) h hs (by omega) (by omega)
  have u4 : g_Pkg_fillUp_2 (nI s) 10000 0 D = some D' := u4
  exact ⟨w', D', R', u1, u2, u3, by simp only [Option.bind_some, ↓reduceIte, not_true_eq_false, not_false_eq_true, y_1, g_Pkg_fillUp, u4], r_wz u5, u6, u7⟩
theorem w_num1 {w v : Nat} {D R : zx_D} (h : zWo w D R) (hv : v < 128) (hw : w < 640) : ∃ D' R', g_Pkg_appendNumber (nL v) D = some D' ∧ g_R_writeVli (nI v) R = some R' ∧ zWo (w + 1) D' R' ∧ zWq D D' R R' := by
  obtain ⟨t1, t2, t3, t4⟩ := w_app (b := nI v) h ⟨v, by omega, rfl⟩ hw
  have l1 : nL v < 128 := (v_lt (b := 128) (by omega) (by omega)).mpr hv
  have l2 : nI v ≤ 127 := (y_le (b := 127) (by omega) (by omega)).mpr (by omega)
  have l0 : ¬ (8 : Int32) ≤ 0 := by decide
  have c1 : g_Pkg_appendNumber_5 10000 (nL v) 0 D = some (nL v, D) := by
    rw [g_Pkg_appendNumber_5, if_neg l0, if_pos l1]
  have c2 : g_R_writeVli_2 10000 (nI v) R = some (nI v, R) := by
    rw [g_R_writeVli_2, if_pos l2]
  exact ⟨_, _, by simp only [Option.bind_some, ↓reduceIte, not_true_eq_false, not_false_eq_true, y_1, g_Pkg_appendNumber, c1, v_to, t1], by simp only [Option.bind_some, ↓reduceIte, not_true_eq_false, not_false_eq_true, y_1, g_R_writeVli, c2, t2], t3, t4⟩
