def z_end (qv : Nat) (x1 : Int32) (k : Nat) : Int32 := if k = 0 then nI qv else if k = 5 then x1 else 0
theorem y_q {qv k : Nat} (hq : qv ≤ 3) (hk : k < 4) : (zo_shr (nI qv) (8 * nI k)) &&& 255 = if k = 0 then nI qv else 0 := by
  have h1 : qv = 0 ∨ qv = 1 ∨ qv = 2 ∨ qv = 3 := by omega
  have h2 : k = 0 ∨ k = 1 ∨ k = 2 ∨ k = 3 := by omega
  rcases h1 with rfl | rfl | rfl | rfl <;> rcases h2 with rfl | rfl | rfl | rfl <;> rfl
theorem y_ql {qv k : Nat} (hq : qv ≤ 3) (hk : k < 4) : ((zo_lshr (nI qv).toInt64 (8 * nI k)) &&& 255).toInt32 = if k = 0 then nI qv else 0 := by
  have h1 : qv = 0 ∨ qv = 1 ∨ qv = 2 ∨ qv = 3 := by omega
  have h2 : k = 0 ∨ k = 1 ∨ k = 2 ∨ k = 3 := by omega
  rcases h1 with rfl | rfl | rfl | rfl <;> rcases h2 with rfl | rfl | rfl | rfl <;> rfl
theorem z_end_B {qv k : Nat} {x1 : Int32} (hq : qv ≤ 3) (hx : y_B x1) : y_B (z_end qv x1 k) := by
  unfold z_end
  split
  · exact ⟨qv, by omega, rfl⟩
  · split
    · exact hx
    · exact ⟨0, by omega, rfl⟩
theorem r_176 {qv : Nat} {x1 : Int32} (R : zx_D) (hq : qv ≤ 3) (hx : y_B x1) : ∀ (c k j : Nat) (s : Int64), j + c = 6 → c < k → y_P s → g_R_pack_176 x1 (nI qv) R k s (nI j) = some (y_fo 3988292384 (z_end qv x1) c j s)
  | 0, k + 1, j, s, hj, _, _ => by
    have l : (6 : Int32) ≤ nI j := (y_le (a := 6) (by omega) (by omega)).mpr (by omega)
    simp only [Option.bind_some, ↓reduceIte, not_true_eq_false, not_false_eq_true, y_1, g_R_pack_176, l]
    rfl
  | c + 1, k + 1, j, s, hj, hk, hp => by
    have l : ¬ (6 : Int32) ≤ nI j := fun q => by have := (y_le (a := 6) (by omega) (by omega)).mp q; omega
    have ih := fun s hs => r_176 R hq hx c k (j + 1) s (by omega) (by omega) hs
    have hB := z_end_B (qv := qv) (k := j) hq hx
    have f4 := y_four R hp hB
    have hP := y_by_P y_P_4 hp hB
    by_cases h4 : 4 ≤ j
    · have l4 : (4 : Int32) ≤ nI j := (y_le (a := 4) (by omega) (by omega)).mpr h4
      have h45 : j = 4 ∨ j = 5 := by omega
      rcases h45 with rfl | rfl
      · have e : nI 4 = 4 := rfl
        have ef : z_end qv x1 4 = 0 := rfl
        rw [ef] at f4
        simp only [g_R_pack_176, l, l4, e, f4, Option.bind_some, ↓reduceIte, not_true_eq_false]
        exact ih _ (by rw [ef] at hP; exact hP)
      · have e : ¬ nI 5 = 4 := by decide
        have ef : z_end qv x1 5 = x1 := rfl
        rw [ef] at f4
        simp only [g_R_pack_176, l, l4, e, f4, Option.bind_some, ↓reduceIte, not_false_eq_true]
        exact ih _ (by rw [ef] at hP; exact hP)
    · have l4 : ¬ (4 : Int32) ≤ nI j := fun q => h4 ((y_le (a := 4) (by omega) (by omega)).mp q)
      have ef : z_end qv x1 j = if j = 0 then nI qv else 0 := by
        unfold z_end
        rw [if_neg (show ¬ j = 5 by omega)]
      rw [ef] at f4
      simp only [g_R_pack_176, l, l4, y_q hq (show j < 4 by omega), f4, Option.bind_some, ↓reduceIte, y_1]
      rw [ef] at hP
      have := ih _ hP
      rw [this, y_fo, ef]
theorem w_endL {qv : Nat} {x1 : Int32} (hq : qv ≤ 3) : ∀ (j k1 k2 i w : Nat) (D R : zx_D), i + j = 4 → j < k1 → j < k2 → zWo w D R → w + j ≤ 640 → (∀ k, k < 6 → zg_i D 22 k = z_end qv x1 k) → ∃ D' R', g_Row_appendAll_18_22_3 0 6 k1 (nI i) D = g_Row_appendAll_18_22_3 0 6 (k1 - j) 4 D' ∧ g_R_writeNumber_3 (nI qv).toInt64 4 k2 (nI i) R = some R' ∧ zWo (w + j) D' R' ∧ zWq D D' R R'
  | 0, k1 + 1, k2 + 1, i, w, D, R, hi, _, _, h, _, _ => by
    have hi4 : i = 4 := by omega
    subst hi4
    have l : (4 : Int32) ≤ nI 4 := by decide
    exact ⟨D, R, rfl, by simp only [Option.bind_some, ↓reduceIte, not_true_eq_false, not_false_eq_true, y_1, g_R_writeNumber_3, l], h, zWq_rfl⟩
  | j + 1, k1 + 1, k2 + 1, i, w, D, R, hi, h1, h2, h, hw, he => by
    have l : ¬ (0 : Int32) + 6 ≤ nI i := fun q => by have := (y_le (a := 6) (by omega) (by omega)).mp q; omega
    have l2 : ¬ (4 : Int32) ≤ nI i := fun q => by have := (y_le (a := 4) (by omega) (by omega)).mp q; omega
    have z1 : zk_in (nI i) 6 = true := y_in (by omega) (by omega)
    have z2 : zn (nI i) = i := y_zn (by omega)
    have ef : z_end qv x1 i = if i = 0 then nI qv else 0 := by
      unfold z_end
      rw [if_neg (show ¬ i = 5 by omega)]
    have hB : y_B (if i = 0 then nI qv else 0) := by
      split
      · exact ⟨qv, by omega, rfl⟩
      · exact ⟨0, by omega, rfl⟩
    have hb := he i (by omega)
    rw [ef] at hb
    obtain ⟨t1, t2, t3, t4⟩ := w_app h hB (by omega)
    obtain ⟨D', R', u1, u2, u3, u4⟩ := w_endL hq j k1 k2 (i + 1) (w + 1) _ _ (by omega) (by omega) (by omega) t3 (by omega) (fun k hk => by rw [t4.c 22 k (by omega) (by omega)]; exact he k hk)
    refine ⟨D', R', ?_, ?_, by rwa [show w + 1 + j = w + (j + 1) by omega] at u3, t4.trans u4⟩
    · rw [show k1 + 1 - (j + 1) = k1 - j by omega, ← u1, g_Row_appendAll_18_22_3]
      simp only [Option.bind_some, ↓reduceIte, not_true_eq_false, not_false_eq_true, y_1, l, z1, z2, hb, t1]
    · rw [g_R_writeNumber_3, if_neg l2, y_ql hq (show i < 4 by omega), t2, Option.bind_some, y_1, u2]
def r_pk3 (x1 qv : Int32) (q18 : zx_D) : Option zx_D :=
          (g_R_pack_176 x1 qv q18 10000 4294967295 0).bind fun q22 =>
          (g_R_writeNumber (q22 ^^^ 4294967295) 4 q18).bind fun q23 =>
          (g_R_writeNumber (qv.toInt64) 4 q23).bind fun q24 =>
          (g_R_write 0 q24).bind fun q25 =>
          (g_R_write x1 q25).bind fun q26 =>
          (g_R_write 89 q26).bind fun q27 =>
          (g_R_write 90 q27)
theorem w_end {w qv : Nat} {x1 : Int32} {D R : zx_D} (h : zWo w D R) (hw : w + 12 ≤ 640) (hq : qv ≤ 3) (hx : y_B x1) (ix : zg_i D 17 9 = nI (4 * (qv + 1))) (so : zg_i D 17 5 = x1) (en : ∀ i, 1 ≤ i → i ≤ 4 → zg_i D 22 i = 0) :
    ∃ D' R', g_Pkg_writeEnd D = some D' ∧ r_pk3 x1 (nI qv) R = some R' ∧ zWo (w + 12) D' R' ∧ zWq (zp_i (zp_i D 22 0 (nI qv)) 22 5 x1) D' R R' := by
  have e1 : nI (4 * (qv + 1)) / 4 - 1 = nI qv := by
    rw [show (4 : Int32) = nI 4 from rfl, y_div (by omega) (by omega), show 4 * (qv + 1) / 4 = qv + 1 by omega]
    exact y_sub (a := qv + 1) (b := 1) (by omega)
  have z0 : zn 0 = 0 := rfl
  have z5 : zn 5 = 5 := rfl
  have h0 : zWo w (zp_i (zp_i D 22 0 (nI qv)) 22 5 x1) R := ⟨h.hw, h.sC, h.oC, h.sR, h.bs⟩
  have he : ∀ k, k < 6 → zg_i (zp_i (zp_i D 22 0 (nI qv)) 22 5 x1) 22 k = z_end qv x1 k := by
    intro k hk
    unfold z_end
    rw [y_gi, y_gi]
    by_cases hk5 : k = 5
    · rw [if_pos ⟨rfl, hk5⟩, if_neg (by omega), if_pos hk5]
    · rw [if_neg (fun q => hk5 q.2)]
      by_cases hk0 : k = 0
      · rw [if_pos ⟨rfl, hk0⟩, if_pos hk0]
      · rw [if_neg (fun q => hk0 q.2), if_neg hk0, if_neg hk5]
        exact en k (by omega) (by omega)
  have C0 : g_Pkg_writeEnd D = (g_P_sumFour_22 0 6 (zp_i (zp_i D 22 0 (nI qv)) 22 5 x1)).bind fun q1 =>
      (g_Row_appendLowFirst_18 q1 4 (zp_i (zp_i D 22 0 (nI qv)) 22 5 x1)).bind fun q2 =>
      (g_Row_appendAll_18_22 0 6 q2).bind fun q3 =>
      (g_Row_append_18 89 q3).bind fun q4 =>
      (g_Row_append_18 90 q4).bind fun q5 =>
      some q5 := by
    simp only [g_Pkg_writeEnd, ix, e1, so, z0, z5]
  rw [C0]
  generalize zp_i (zp_i D 22 0 (nI qv)) 22 5 x1 = D0 at *
  have s1 : g_P_sumFour_22 0 6 D0 = some (y_s4 (z_end qv x1) 0 6) := by
    rw [show g_P_sumFour_22 0 6 D0 = g_P_sumFour_22 (nI 0) (nI 6) D0 from rfl, y_sum4_22 D0 (by omega) (by omega)]
    rw [y_s4_congr (f := D0.1 22) (g := z_end qv x1) (fun i _ hi => he i (by omega))]
  have s2 : g_R_pack_176 x1 (nI qv) R 10000 4294967295 0 = some (y_fo 3988292384 (z_end qv x1) 6 0 4294967295) := r_176 R hq hx 6 10000 0 _ (by omega) (by omega) y_P_F
  have s3 : y_fo 3988292384 (z_end qv x1) 6 0 4294967295 ^^^ 4294967295 = y_s4 (z_end qv x1) 0 6 := rfl
  generalize y_s4 (z_end qv x1) 0 6 = v at *
  obtain ⟨D1, R1, u1, u2, u3, u4⟩ := w_low v 4 (by omega) h0 (by omega)
  have u1 : g_Row_appendLowFirst_18 v 4 D0 = some D1 := u1
  have u2 : g_R_writeNumber v 4 R = some R1 := u2
  have he1 : ∀ k, k < 6 → zg_i D1 22 k = z_end qv x1 k := fun k hk => by rw [u4.c 22 k (by omega) (by omega)]; exact he k hk
  obtain ⟨D2, R2, a1, a2, a3, a4⟩ := w_endL (x1 := x1) hq 4 10000 10000 0 (w + 4) D1 R1 (by omega) (by omega) (by omega) u3 (by omega) he1
  have a1 : g_Row_appendAll_18_22_3 0 6 10000 0 D1 = g_Row_appendAll_18_22_3 0 6 9996 4 D2 := a1
  have a2 : g_R_writeNumber_3 (nI qv).toInt64 4 10000 0 R1 = some R2 := a2
  have he2 : ∀ k, k < 6 → zg_i D2 22 k = z_end qv x1 k := fun k hk => by rw [a4.c 22 k (by omega) (by omega)]; exact he1 k hk
  obtain ⟨b1, b2, b3, b4⟩ := w_app (b := 0) a3 ⟨0, by omega, rfl⟩ (by omega)
  have g4 : zg_i D2 22 (zn 4) = 0 := by
    have := he2 4 (by omega)
    exact this
  have l4 : ¬ (0 : Int32) + 6 ≤ 4 := by decide
  have k4 : zk_in 4 6 = true := by decide
  have E4 : g_Row_appendAll_18_22_3 0 6 9996 4 D2 = g_Row_appendAll_18_22_3 0 6 9995 5 (zp_i (zp_i D2 19 (w + 4 + 4) 0) 18 1 (nI (w + 4 + 4 + 1))) := by
    rw [g_Row_appendAll_18_22_3, if_neg l4, if_pos k4, g4, b1, Option.bind_some]
    rfl
  generalize zp_i (zp_i D2 19 (w + 4 + 4) 0) 18 1 (nI (w + 4 + 4 + 1)) = D3 at *
  generalize zp_i (zp_i R2 4 (w + 4 + 4) 0) 0 7 (nI (w + 4 + 4 + 1)) = R3 at *
  obtain ⟨c1, c2, c3, c4⟩ := w_app (b := x1) b3 hx (by omega)
  have g5 : zg_i D3 22 (zn 5) = x1 := by
    have := he2 5 (by omega)
    rw [← b4.c 22 5 (by omega) (by omega)] at this
    exact this
  have l5 : ¬ (0 : Int32) + 6 ≤ 5 := by decide
  have k5 : zk_in 5 6 = true := by decide
  have l6 : (0 : Int32) + 6 ≤ 5 + 1 := by decide
  have E5 : g_Row_appendAll_18_22_3 0 6 9995 5 D3 = some (zp_i (zp_i D3 19 (w + 4 + 4 + 1) x1) 18 1 (nI (w + 4 + 4 + 1 + 1))) := by
    rw [g_Row_appendAll_18_22_3, if_neg l5, if_pos k5, g5, c1, Option.bind_some, g_Row_appendAll_18_22_3, if_pos l6]
  generalize zp_i (zp_i D3 19 (w + 4 + 4 + 1) x1) 18 1 (nI (w + 4 + 4 + 1 + 1)) = D4 at *
  generalize zp_i (zp_i R3 4 (w + 4 + 4 + 1) x1) 0 7 (nI (w + 4 + 4 + 1 + 1)) = R4 at *
  obtain ⟨d1, d2, d3, d4⟩ := w_app (b := 89) c3 ⟨89, by omega, rfl⟩ (by omega)
  generalize zp_i (zp_i D4 19 (w + 4 + 4 + 1 + 1) 89) 18 1 (nI (w + 4 + 4 + 1 + 1 + 1)) = D5 at *
  generalize zp_i (zp_i R4 4 (w + 4 + 4 + 1 + 1) 89) 0 7 (nI (w + 4 + 4 + 1 + 1 + 1)) = R5 at *
  obtain ⟨f1, f2, f3, f4⟩ := w_app (b := 90) d3 ⟨90, by omega, rfl⟩ (by omega)
  refine ⟨_, _, ?_, ?_, f3, u4.trans (a4.trans (b4.trans (c4.trans (d4.trans f4))))⟩
  · simp only [s1, u1, g_Row_appendAll_18_22, a1, E4, E5, d1, f1, Option.bind_some]
  · simp only [r_pk3, s2, s3, u2, g_R_writeNumber, a2, b2, c2, d2, f2, Option.bind_some]
    rw [show g_R_writeNumber_3 v 4 10000 0 R = some R1 from by
      have := u2
      rw [g_R_writeNumber] at this
      obtain ⟨q, q1, q2⟩ := zk_bind this
      cases q2
      exact q1]
    simp only [Option.bind_some, a2, b2, c2, d2, f2]
