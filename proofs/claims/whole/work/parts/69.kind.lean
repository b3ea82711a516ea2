def r_tk (kd : Nat) (q : Int32) (R : zx_D) : Option zx_D :=
  if kd = 1 then g_R_literal R
  else if kd = 2 then
    (g_R_lengthTaken 6576 q (zp_l (zp_l (zp_l R 0 16 (zg_l R 0 15)) 0 15 (zg_l R 0 14)) 0 14 (zg_l R 0 13))).bind fun q15 =>
      (g_R_distance q15.1 q15.2).bind fun q16 =>
      if 7 ≤ zg_i q16.2 0 12 then
        g_R_back q15.1 2 (zp_i (zp_l q16.2 0 13 q16.1) 0 12 10)
      else
        g_R_back q15.1 2 (zp_i (zp_l q16.2 0 13 q16.1) 0 12 7)
  else if kd = 3 then
    if 7 ≤ zg_i R 0 12 then g_R_back 1 3 (zp_i R 0 12 11) else g_R_back 1 3 (zp_i R 0 12 9)
  else g_R_repeated (nI (kd - 4)) q R
theorem r_tk1 (q : Int32) (R : zx_D) : r_tk 1 q R = g_R_literal R := by
  unfold r_tk
  rw [if_pos rfl]
theorem r_tk2 (q : Int32) (R : zx_D) : r_tk 2 q R = (g_R_lengthTaken 6576 q (zp_l (zp_l (zp_l R 0 16 (zg_l R 0 15)) 0 15 (zg_l R 0 14)) 0 14 (zg_l R 0 13))).bind fun q15 =>
      (g_R_distance q15.1 q15.2).bind fun q16 =>
      if 7 ≤ zg_i q16.2 0 12 then
        g_R_back q15.1 2 (zp_i (zp_l q16.2 0 13 q16.1) 0 12 10)
      else
        g_R_back q15.1 2 (zp_i (zp_l q16.2 0 13 q16.1) 0 12 7) := by
  unfold r_tk
  rw [if_neg (by decide), if_pos rfl]
theorem r_tk3 (q : Int32) (R : zx_D) : r_tk 3 q R = if 7 ≤ zg_i R 0 12 then g_R_back 1 3 (zp_i R 0 12 11) else g_R_back 1 3 (zp_i R 0 12 9) := by
  unfold r_tk
  rw [if_neg (by decide), if_neg (by decide), if_pos rfl]
theorem r_tkr (k : Nat) (q : Int32) (R : zx_D) : r_tk (4 + k) q R = g_R_repeated (nI k) q R := by
  unfold r_tk
  rw [if_neg (by omega), if_neg (by omega), if_neg (by omega), show 4 + k - 4 = k by omega]
theorem o_bs {α : Type} (o : Option α) : (o.bind fun q => some q) = o := by cases o <;> rfl
theorem o_sb {α β : Type} (x : α) (f : α → Option β) : (some x).bind f = f x := (Option.bind_some x f).trans (Eq.refl _)
theorem c_want (E : zx_D) (k : Int32) : ∃ w, ((if ¬ zg_i E 7 7 = k then some 1 else some 0) : Option Int32) = some w := by
  by_cases t : ¬ zg_i E 7 7 = k
  · exact ⟨1, by rw [if_pos t]⟩
  · exact ⟨0, by rw [if_neg t]⟩
theorem c_wantle (E : zx_D) (k : Int32) : ∃ w, ((if zg_i E 7 7 ≤ k then some 0 else some 1) : Option Int32) = some w := by
  by_cases t : zg_i E 7 7 ≤ k
  · exact ⟨0, by rw [if_pos t]⟩
  · exact ⟨1, by rw [if_neg t]⟩
theorem c_kind {st Q : Nat} {D : zx_D} (hst : zg_i D 7 2 = nI st) :
    (∀ D1, (∀ w, g_Src_codeBit (nI (st * 16 + Q)) w D = some (0, D1)) → g_Mdl_codeKind_s (nI Q) D = some (1, D1)) ∧
    (∀ D1 D2, (∀ w, g_Src_codeBit (nI (st * 16 + Q)) w D = some (1, D1)) → zg_i D1 7 2 = nI st → (∀ w, g_Src_codeBit (nI (384 + st)) w D1 = some (0, D2)) → g_Mdl_codeKind_s (nI Q) D = some (2, D2)) ∧
    (∀ D1 D2 D3 D4 b, (∀ w, g_Src_codeBit (nI (st * 16 + Q)) w D = some (1, D1)) → zg_i D1 7 2 = nI st → (∀ w, g_Src_codeBit (nI (384 + st)) w D1 = some (1, D2)) → zg_i D2 7 2 = nI st → (∀ w, g_Src_codeBit (nI (396 + st)) w D2 = some (0, D3)) → zg_i D3 7 2 = nI st → (∀ w, g_Src_codeBit (nI (192 + st * 16 + Q)) w D3 = some (nI b, D4)) → b ≤ 1 → g_Mdl_codeKind_s (nI Q) D = some (nI (3 + b), D4)) ∧
    (∀ D1 D2 D3 D4, (∀ w, g_Src_codeBit (nI (st * 16 + Q)) w D = some (1, D1)) → zg_i D1 7 2 = nI st → (∀ w, g_Src_codeBit (nI (384 + st)) w D1 = some (1, D2)) → zg_i D2 7 2 = nI st → (∀ w, g_Src_codeBit (nI (396 + st)) w D2 = some (1, D3)) → zg_i D3 7 2 = nI st → (∀ w, g_Src_codeBit (nI (408 + st)) w D3 = some (0, D4)) → g_Mdl_codeKind_s (nI Q) D = some (5, D4)) ∧
    (∀ D1 D2 D3 D4 D5 b, (∀ w, g_Src_codeBit (nI (st * 16 + Q)) w D = some (1, D1)) → zg_i D1 7 2 = nI st → (∀ w, g_Src_codeBit (nI (384 + st)) w D1 = some (1, D2)) → zg_i D2 7 2 = nI st → (∀ w, g_Src_codeBit (nI (396 + st)) w D2 = some (1, D3)) → zg_i D3 7 2 = nI st → (∀ w, g_Src_codeBit (nI (408 + st)) w D3 = some (1, D4)) → zg_i D4 7 2 = nI st → (∀ w, g_Src_codeBit (nI (420 + st)) w D4 = some (nI b, D5)) → g_Mdl_codeKind_s (nI Q) D = some (nI (6 + b), D5)) := by
  have z4 : ¬ (1 : Int32) = 0 := by decide
  have i0 : 0 + nI st * 16 + nI Q = nI (st * 16 + Q) := by rw [show (16 : Int32) = nI 16 from rfl, y_mul, show (0 : Int32) = nI 0 from rfl, y_add, y_add, Nat.zero_add]
  have i1 : 384 + nI st = nI (384 + st) := y_add _ _
  have i2 : 396 + nI st = nI (396 + st) := y_add _ _
  have i3 : 408 + nI st = nI (408 + st) := y_add _ _
  have i4 : 420 + nI st = nI (420 + st) := y_add _ _
  have i5 : 192 + nI st * 16 + nI Q = nI (192 + st * 16 + Q) := by rw [show (16 : Int32) = nI 16 from rfl, y_mul, show (192 : Int32) = nI 192 from rfl, y_add, y_add]
  obtain ⟨w1, hw1⟩ := c_want D 1
  refine ⟨fun D1 t1 => ?_, fun D1 D2 t1 s1 t2 => ?_, fun D1 D2 D3 D4 b t1 s1 t2 s2 t3 s3 t4 hb => ?_, fun D1 D2 D3 D4 t1 s1 t2 s2 t3 s3 t4 => ?_, fun D1 D2 D3 D4 D5 b t1 s1 t2 s2 t3 s3 t4 s4 t5 => ?_⟩
  · simp only [g_Mdl_codeKind_s, hw1, hst, i0, t1, Option.bind_some, ↓reduceIte, not_true_eq_false]
  · obtain ⟨w2, hw2⟩ := c_want D1 2
    simp only [g_Mdl_codeKind_s, hw1, hst, i0, t1, z4, hw2, s1, i1, t2, Option.bind_some, ↓reduceIte, not_true_eq_false, not_false_eq_true]
  · obtain ⟨w2, hw2⟩ := c_want D1 2
    obtain ⟨w3, hw3⟩ := c_wantle D2 4
    have hb2 : b = 0 ∨ b = 1 := by omega
    rcases hb2 with rfl | rfl
    · have t4 : ∀ w, g_Src_codeBit (nI (192 + st * 16 + Q)) w D3 = some (0, D4) := t4
      by_cases hk : ¬ zg_i D3 7 7 = 4
      · simp only [g_Mdl_codeKind_s, hw1, hst, i0, t1, z4, hw2, s1, i1, t2, hw3, s2, i2, t3, s3, i5, t4, hk, Option.bind_some, ↓reduceIte, not_true_eq_false, not_false_eq_true]
        rfl
      · simp only [g_Mdl_codeKind_s, hw1, hst, i0, t1, z4, hw2, s1, i1, t2, hw3, s2, i2, t3, s3, i5, t4, hk, Option.bind_some, ↓reduceIte, not_true_eq_false, not_false_eq_true]
        rfl
    · have t4 : ∀ w, g_Src_codeBit (nI (192 + st * 16 + Q)) w D3 = some (1, D4) := t4
      by_cases hk : ¬ zg_i D3 7 7 = 4
      · simp only [g_Mdl_codeKind_s, hw1, hst, i0, t1, z4, hw2, s1, i1, t2, hw3, s2, i2, t3, s3, i5, t4, hk, Option.bind_some, ↓reduceIte, not_true_eq_false, not_false_eq_true]
        rfl
      · simp only [g_Mdl_codeKind_s, hw1, hst, i0, t1, z4, hw2, s1, i1, t2, hw3, s2, i2, t3, s3, i5, t4, hk, Option.bind_some, ↓reduceIte, not_true_eq_false, not_false_eq_true]
        rfl
  · obtain ⟨w2, hw2⟩ := c_want D1 2
    obtain ⟨w3, hw3⟩ := c_wantle D2 4
    obtain ⟨w4, hw4⟩ := c_wantle D3 5
    simp only [g_Mdl_codeKind_s, hw1, hst, i0, t1, z4, hw2, s1, i1, t2, hw3, s2, i2, t3, hw4, s3, i3, t4, Option.bind_some, ↓reduceIte, not_true_eq_false, not_false_eq_true]
  · obtain ⟨w2, hw2⟩ := c_want D1 2
    obtain ⟨w3, hw3⟩ := c_wantle D2 4
    obtain ⟨w4, hw4⟩ := c_wantle D3 5
    have e6 : 6 + nI b = nI (6 + b) := y_add 6 b
    by_cases hk : zg_i D4 7 7 ≤ 6
    · simp only [g_Mdl_codeKind_s, hw1, hst, i0, t1, z4, hw2, s1, i1, t2, hw3, s2, i2, t3, hw4, s3, i3, t4, hk, s4, i4, t5, e6, Option.bind_some, ↓reduceIte, not_true_eq_false, not_false_eq_true]
    · simp only [g_Mdl_codeKind_s, hw1, hst, i0, t1, z4, hw2, s1, i1, t2, hw3, s2, i2, t3, hw4, s3, i3, t4, hk, s4, i4, t5, e6, Option.bind_some, ↓reduceIte, not_true_eq_false, not_false_eq_true]
theorem c_bitw (k w w' : Int32) (D : zx_D) : g_Src_codeBit k w D = g_Src_codeBit k w' D := rfl
theorem r_kind {st Q : Nat} {R : zx_D} (hst : zg_i R 0 12 = nI st) (hq : ((g_R_bytes R).bind fun q1 => g_R_low4 q1 R) = some (nI Q)) :
    (∀ R1, g_R_bit (nI (6144 + (st * 16 + Q))) R = some (0, R1) → g_R_token R = r_tk 1 (nI Q) R1) ∧
    (∀ R1 R2, g_R_bit (nI (6144 + (st * 16 + Q))) R = some (1, R1) → zg_i R1 0 12 = nI st → g_R_bit (nI (6144 + (384 + st))) R1 = some (0, R2) → g_R_token R = r_tk 2 (nI Q) R2) ∧
    (∀ R1 R2 R3 R4 b, g_R_bit (nI (6144 + (st * 16 + Q))) R = some (1, R1) → zg_i R1 0 12 = nI st → g_R_bit (nI (6144 + (384 + st))) R1 = some (1, R2) → zg_i R2 0 12 = nI st → g_R_bit (nI (6144 + (396 + st))) R2 = some (0, R3) → zg_i R3 0 12 = nI st → g_R_bit (nI (6144 + (192 + st * 16 + Q))) R3 = some (nI b, R4) → b ≤ 1 → g_R_token R = r_tk (3 + b) (nI Q) R4) ∧
    (∀ R1 R2 R3 R4, g_R_bit (nI (6144 + (st * 16 + Q))) R = some (1, R1) → zg_i R1 0 12 = nI st → g_R_bit (nI (6144 + (384 + st))) R1 = some (1, R2) → zg_i R2 0 12 = nI st → g_R_bit (nI (6144 + (396 + st))) R2 = some (1, R3) → zg_i R3 0 12 = nI st → g_R_bit (nI (6144 + (408 + st))) R3 = some (0, R4) → g_R_token R = r_tk 5 (nI Q) R4) ∧
    (∀ R1 R2 R3 R4 R5 b, g_R_bit (nI (6144 + (st * 16 + Q))) R = some (1, R1) → zg_i R1 0 12 = nI st → g_R_bit (nI (6144 + (384 + st))) R1 = some (1, R2) → zg_i R2 0 12 = nI st → g_R_bit (nI (6144 + (396 + st))) R2 = some (1, R3) → zg_i R3 0 12 = nI st → g_R_bit (nI (6144 + (408 + st))) R3 = some (1, R4) → zg_i R4 0 12 = nI st → g_R_bit (nI (6144 + (420 + st))) R4 = some (nI b, R5) → b ≤ 1 → g_R_token R = r_tk (6 + b) (nI Q) R5) := by
  have z4 : ¬ (1 : Int32) = 0 := by decide
  obtain ⟨qb, hqb, hq2⟩ := zk_bind hq
  have i0 : 6144 + 16 * nI st + nI Q = nI (6144 + (st * 16 + Q)) := by rw [show (16 : Int32) = nI 16 from rfl, y_mul, show (6144 : Int32) = nI 6144 from rfl, y_add, y_add, show 6144 + 16 * st + Q = 6144 + (st * 16 + Q) by omega]
  have i1 : 6528 + nI st = nI (6144 + (384 + st)) := by rw [show (6528 : Int32) = nI 6528 from rfl, y_add, show 6528 + st = 6144 + (384 + st) by omega]
  have i2 : 6540 + nI st = nI (6144 + (396 + st)) := by rw [show (6540 : Int32) = nI 6540 from rfl, y_add, show 6540 + st = 6144 + (396 + st) by omega]
  have i3 : 6552 + nI st = nI (6144 + (408 + st)) := by rw [show (6552 : Int32) = nI 6552 from rfl, y_add, show 6552 + st = 6144 + (408 + st) by omega]
  have i4 : 6564 + nI st = nI (6144 + (420 + st)) := by rw [show (6564 : Int32) = nI 6564 from rfl, y_add, show 6564 + st = 6144 + (420 + st) by omega]
  have i5 : 6336 + 16 * nI st + nI Q = nI (6144 + (192 + st * 16 + Q)) := by rw [show (16 : Int32) = nI 16 from rfl, y_mul, show (6336 : Int32) = nI 6336 from rfl, y_add, y_add, show 6336 + 16 * st + Q = 6144 + (192 + st * 16 + Q) by omega]
  refine ⟨fun R1 t1 => ?_, fun R1 R2 t1 s1 t2 => ?_, fun R1 R2 R3 R4 b t1 s1 t2 s2 t3 s3 t4 hb => ?_, fun R1 R2 R3 R4 t1 s1 t2 s2 t3 s3 t4 => ?_, fun R1 R2 R3 R4 R5 b t1 s1 t2 s2 t3 s3 t4 s4 t5 hb => ?_⟩
  · rw [r_tk1]
    simp only [g_R_token, hqb, hq2, hst, i0, t1, o_bs, o_sb, ↓reduceIte, not_true_eq_false]
  · rw [r_tk2]
    simp only [g_R_token, hqb, hq2, hst, i0, t1, z4, s1, i1, t2, o_bs, o_sb, ↓reduceIte, not_true_eq_false, not_false_eq_true]
  · have hb2 : b = 0 ∨ b = 1 := by omega
    rcases hb2 with rfl | rfl
    · have t4 : g_R_bit (nI (6144 + (192 + st * 16 + Q))) R3 = some (0, R4) := t4
      rw [show 3 + 0 = 3 from rfl, r_tk3]
      simp only [g_R_token, hqb, hq2, hst, i0, t1, z4, s1, i1, t2, s2, i2, t3, s3, i5, t4, o_bs, o_sb, ↓reduceIte, not_true_eq_false, not_false_eq_true]
    · have t4 : g_R_bit (nI (6144 + (192 + st * 16 + Q))) R3 = some (1, R4) := t4
      have hr : r_tk (3 + 1) (nI Q) R4 = g_R_repeated 0 (nI Q) R4 := r_tkr 0 _ _
      rw [hr]
      simp only [g_R_token, hqb, hq2, hst, i0, t1, z4, s1, i1, t2, s2, i2, t3, s3, i5, t4, o_bs, o_sb, ↓reduceIte, not_true_eq_false, not_false_eq_true]
  · have hr : r_tk 5 (nI Q) R4 = g_R_repeated 1 (nI Q) R4 := r_tkr 1 _ _
    rw [hr]
    simp only [g_R_token, hqb, hq2, hst, i0, t1, z4, s1, i1, t2, s2, i2, t3, s3, i3, t4, o_bs, o_sb, ↓reduceIte, not_true_eq_false, not_false_eq_true]
  · have hb2 : b = 0 ∨ b = 1 := by omega
    rcases hb2 with rfl | rfl
    · have t5 : g_R_bit (nI (6144 + (420 + st))) R4 = some (0, R5) := t5
      have hr : r_tk (6 + 0) (nI Q) R5 = g_R_repeated 2 (nI Q) R5 := r_tkr 2 _ _
      rw [hr]
      simp only [g_R_token, hqb, hq2, hst, i0, t1, z4, s1, i1, t2, s2, i2, t3, s3, i3, t4, s4, i4, t5, o_bs, o_sb, ↓reduceIte, not_true_eq_false, not_false_eq_true]
    · have t5 : g_R_bit (nI (6144 + (420 + st))) R4 = some (1, R5) := t5
      have hr : r_tk (6 + 1) (nI Q) R5 = g_R_repeated 3 (nI Q) R5 := r_tkr 3 _ _
      rw [hr]
      simp only [g_R_token, hqb, hq2, hst, i0, t1, z4, s1, i1, t2, s2, i2, t3, s3, i3, t4, s4, i4, t5, o_bs, o_sb, ↓reduceIte, not_true_eq_false, not_false_eq_true]
