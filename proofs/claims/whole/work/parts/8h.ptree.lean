def zE2 (n L lc lp pb st : Nat) (D R : zx_D) : Prop := (∃ sz r, zN n L sz r lc lp pb st D R) ∨ zL D R
theorem c_bitL {D : zx_D} (k w : Int32) (h : ¬ zg_i D 20 2 = 0) : g_Snk_codeBit k w D = some (w, D) := by
  have e : g_Snk_shift D = some D := by rw [g_Snk_shift, if_pos h]
  simp only [g_Snk_codeBit, e, h, o_sb, ↓reduceIte]
theorem c_evL {D : zx_D} (w : Int32) (h : ¬ zg_i D 20 2 = 0) : g_Snk_codeEvenBit w D = some (w, D) := by
  have e : g_Snk_shift D = some D := by rw [g_Snk_shift, if_pos h]
  simp only [g_Snk_codeEvenBit, e, h, o_sb, ↓reduceIte]
theorem r_shL {R : zx_D} (h : ¬ zg_i R 0 27 = 0) : ∃ R', g_R_shiftOut R = some R' ∧ (¬ zg_i R' 0 27 = 0) ∧ (∀ k, k ≠ 25 → k ≠ 27 → zg_i R' 0 k = zg_i R 0 k) ∧ (∀ p k, p ≠ 0 → zg_i R' p k = zg_i R p k) ∧ (∀ k, k ≠ 17 → zg_l R' 0 k = zg_l R 0 k) := by
  have z1 : ¬ (1 : Int32) = 0 := by decide
  by_cases t : zg_l R 0 17 < 16777216
  · refine ⟨zp_i (zp_l R 0 17 ((zg_l R 0 17) * 256)) 0 27 1, ?_, z1, fun k a1 a2 => ?_, fun p k a1 => ?_, fun k a1 => ?_⟩
    · simp only [g_R_shiftOut, t, h, z1, o_sb, ↓reduceIte, not_false_eq_true, or_true]
    · simp [y_gi, y_il, a2]
    · simp [y_gi, y_il, a1]
    · simp [y_gl, y_li, a1]
  · exact ⟨R, by simp only [g_R_shiftOut, t, ↓reduceIte], h, fun _ _ _ => rfl, fun _ _ _ => rfl, fun _ _ => rfl⟩
theorem r_grL {R : zx_D} (y : Int64) (h27 : ¬ zg_i R 0 27 = 0) : g_R_grow y R = some R := by
  have : g_R_grow_10 10000 y ((zg_i R 0 25) - 1) R = some R := by
    rw [g_R_grow_10]
    by_cases u : (zg_i R 0 25) - 1 < 0
    · rw [if_pos u]
    · rw [if_neg u]
      by_cases w : y ≤ 0
      · rw [if_pos w]
      · rw [if_neg w, if_pos h27]
  rw [g_R_grow, this, o_sb]
theorem r_putL {R : zx_D} {k x : Nat} (hk : k < 8328) (hx : x ≤ 1) (h : ¬ zg_i R 0 27 = 0) : ∃ R', g_R_put (nI k) (nI x) R = some R' ∧ (¬ zg_i R' 0 27 = 0) ∧ (∀ k, k ≠ 25 → k ≠ 27 → zg_i R' 0 k = zg_i R 0 k) ∧ (∀ p k, p ≠ 0 → p ≠ 5 → zg_i R' p k = zg_i R p k) ∧ (∀ k, k ≠ 17 → zg_l R' 0 k = zg_l R 0 k) := by
  obtain ⟨R1, s1, s2, s3, s4, s5⟩ := r_shL h
  have k1 : zk_in (nI k) 8328 = true := y_in hk (by omega)
  have k2 : zn (nI k) = k := y_zn (by omega)
  have lrn : ∀ y : Int32, ∃ R2, g_R_learn (nI k) y R1 = some R2 ∧ (∀ p j, p ≠ 5 → zg_i R2 p j = zg_i R1 p j) ∧ (∀ p j, zg_l R2 p j = zg_l R1 p j) := by
    intro y
    rw [g_R_learn, if_pos k1, k2, if_pos k1, if_pos k1]
    by_cases u : y = 0
    · exact ⟨_, if_pos u, fun p j hp => by rw [y_gi, if_neg (fun v => hp v.1)], fun _ _ => rfl⟩
    · exact ⟨_, if_neg u, fun p j hp => by rw [y_gi, if_neg (fun v => hp v.1)], fun _ _ => rfl⟩
  have hx01 : x = 0 ∨ x = 1 := by omega
  rcases hx01 with rfl | rfl
  · obtain ⟨R2, u1, u2, u3⟩ := lrn 0
    have n1 : ¬ nI 0 = 1 := by decide
    refine ⟨zp_l R2 0 17 (((zg_l R1 0 17) / 2048) * (((zg_i R1 5 k)).toInt64)), ?_, fun t => s2 ((u2 0 27 (by omega)).symm.trans t), fun j a1 a2 => (u2 0 j (by omega)).trans (s3 j a1 a2), fun p j a1 a2 => (u2 p j a2).trans (s4 p j a1), fun j a1 => ?_⟩
    · simp only [g_R_put, s1, k1, k2, n1, u1, o_sb, ↓reduceIte, not_false_eq_true]
    · simp [y_gl, a1, u3, s5]
  · obtain ⟨R2, u1, u2, u3⟩ := lrn 1
    have n1 : ¬ ¬ nI 1 = 1 := fun t => t rfl
    have h27 : ¬ zg_i R2 0 27 = 0 := fun t => s2 ((u2 0 27 (by omega)).symm.trans t)
    refine ⟨zp_l R2 0 17 ((zg_l R2 0 17) - ((zg_l R1 0 17) / 2048) * (((zg_i R1 5 k)).toInt64)), ?_, h27, fun j a1 a2 => (u2 0 j (by omega)).trans (s3 j a1 a2), fun p j a1 a2 => (u2 p j a2).trans (s4 p j a1), fun j a1 => ?_⟩
    · simp only [g_R_put, s1, k1, k2, n1, u1, r_grL _ h27, o_sb, ↓reduceIte]
    · simp [y_gl, a1, u3, s5]
theorem p_bit2 {n L lc lp pb st k x : Nat} {D R : zx_D} (hc : lc + lp ≤ 3) (h : zE2 n L lc lp pb st D R) (hk : k < 2052 + 768 * 2 ^ (lc + lp)) (hx : x ≤ 1) : ∃ D' R', g_Snk_codeBit (nI k) (nI x) D = some (nI x, D') ∧ g_R_put (nI (zf k)) (nI x) R = some R' ∧ zE2 n L lc lp pb st D' R' ∧ zH D D' R R' := by
  rcases h with ⟨sz, r, h⟩ | h
  · rcases p_bit h hk hx with ⟨sz', r', D', R', t1, t2, t3, t4⟩ | ⟨D', R', t1, t2, t3, t4⟩
    · exact ⟨D', R', t1, t2, Or.inl ⟨sz', r', t3⟩, t4⟩
    · exact ⟨D', R', t1, t2, Or.inr t3, t4⟩
  · have hl := pw_le hc
    obtain ⟨R', t1, t2, t3, t4, t5⟩ := r_putL (k := zf k) (x := x) (zf_lt (by omega)) hx h.bR
    exact ⟨D, R', c_bitL _ _ h.bC, t1, Or.inr ⟨h.bC, t2⟩, ⟨fun _ _ _ _ _ => rfl, fun _ _ _ => rfl, t3, fun p k a1 a2 _ => t4 p k a1 a2, t5⟩⟩
theorem p_even2 {n L lc lp pb st x : Nat} {D R : zx_D} (h : zE2 n L lc lp pb st D R) (hx : x ≤ 1) : ∃ D' R', g_Snk_codeEvenBit (nI x) D = some (nI x, D') ∧ g_R_putEven (nI x) R = some R' ∧ zE2 n L lc lp pb st D' R' ∧ zH D D' R R' := by
  have hx01 : x = 0 ∨ x = 1 := by omega
  rcases h with ⟨sz, r, h⟩ | h
  · rcases s_shiftO h with ⟨sz1, r1, D1, R1, s1, s2, h1, hr24, q0⟩ | ⟨D1, R1, s1, s2, hX, q0⟩
    · have hr2 := h1.hr2
      have b1C := h1.bC
      obtain ⟨Z, hM⟩ := h1.md
      obtain ⟨hf, hhf⟩ : ∃ hf, hf = r1 / 2 := ⟨_, rfl⟩
      have ebC : zo_lushr (nL r1) 1 = nL hf := by rw [v_sh1 (by omega), ← hhf]
      have ebR : nL r1 / 2 = nL hf := by rw [show (2 : Int64) = nL 2 from rfl, v_div (by omega) (by omega), ← hhf]
      have hN : zN n L sz1 hf lc lp pb st (zp_l D1 20 1 (nL hf)) (zp_l R1 0 17 (nL hf)) := ⟨h1.pB, h1.hn, h1.bC, h1.bR, h1.hL1, h1.hL, h1.mC, h1.mR, h1.hs1, h1.hs2, h1.sC, h1.sR, h1.low, h1.zer, by omega, by omega, rfl, rfl, Z, ⟨hM.hc, hM.hp, hM.lcC, hM.lcR, hM.lpC, hM.lpR, hM.pbC, hM.pbR, hM.hs, hM.stC, hM.stR, hM.ch⟩⟩
      have q1 : zH D1 (zp_l D1 20 1 (nL hf)) R1 (zp_l R1 0 17 (nL hf)) := ⟨fun _ _ _ _ _ => rfl, fun p k a1 => by simp [y_gl, a1], fun _ _ _ => rfl, fun _ _ _ _ _ => rfl, fun k a1 => by simp [y_gl, a1]⟩
      rcases hx01 with rfl | rfl
      · have n1 : ¬ nI 0 = 1 := by decide
        refine ⟨zp_l D1 20 1 (nL hf), zp_l R1 0 17 (nL hf), ?_, ?_, Or.inl ⟨sz1, hf, hN⟩, q0.trans q1⟩
        · simp only [g_Snk_codeEvenBit, s1, b1C, n1, h1.rC, ebC, o_sb, ↓reduceIte, not_false_eq_true]
        · simp only [g_R_putEven, s2, n1, h1.rR, ebR, o_sb, ↓reduceIte, not_false_eq_true]
      · have n1 : ¬ ¬ nI 1 = 1 := fun t => t rfl
        have hs400 : sz1 ≤ 400 := by have := h1.hs2; have := h1.hL; omega
        obtain ⟨D2, R2, a1, a2, a3, a4, a5, a6, a7, a8⟩ := s_raise hs400 sz1 10000 10000 hf (zp_l D1 20 1 (nL hf)) (zp_l R1 0 17 (nL hf)) (Nat.le_refl _) (by omega) (by omega) (by omega) hN.bR hN.low
        have sC1 : zg_i (zp_l D1 20 1 (nL hf)) 20 4 = nI sz1 := h1.sC
        have sR1 : zg_i (zp_l R1 0 17 (nL hf)) 0 25 = nI sz1 := h1.sR
        have hM2 : zM lc lp pb st Z D2 R2 := zM_fr hM (fun j => a5 6 j (by omega)) (fun j _ _ => a5 7 j (by omega)) (fun j _ _ => a7 0 j (by omega)) (fun j => a7 5 j (by omega))
        refine ⟨D2, R2, ?_, ?_, Or.inl ⟨sz1, hf, ⟨fun i hi => ?_, h1.hn, (a5 20 2 (by omega)).trans h1.bC, (a7 0 27 (by omega)).trans h1.bR, h1.hL1, h1.hL, (a5 20 5 (by omega)).trans h1.mC, (a7 0 26 (by omega)).trans h1.mR, h1.hs1, h1.hs2, (a5 20 4 (by omega)).trans h1.sC, (a7 0 25 (by omega)).trans h1.sR, a3, fun i u1 u2 => (a4 i u1).trans (h1.zer i u1 u2), by omega, by omega, (a6 20 1).trans rfl, (a8 0 17).trans rfl, Z, hM2⟩⟩, (q0.trans q1).trans ⟨fun p k b1 b2 b3 => a5 p k b3, fun p k b1 => a6 p k, fun k b1 b2 => a7 0 k (by omega), fun p k b1 b2 b3 => a7 p k b3, fun k b1 => a8 0 k⟩⟩
        · simp only [g_Snk_codeEvenBit, s1, b1C, n1, h1.rC, ebC, g_Snk_raise, sC1, a1, o_sb, ↓reduceIte]
        · simp only [g_R_putEven, s2, n1, h1.rR, ebR, g_R_grow, sR1, a2, o_sb, ↓reduceIte]
        · rw [a5 2 i (by omega), a7 1 i (by omega)]
          exact h1.pB i hi
    · have z3 := hX.bC
      have e1 : g_Snk_codeEvenBit (nI x) D = some (nI x, D1) := by
        simp only [g_Snk_codeEvenBit, s1, z3, o_sb, ↓reduceIte]
      rcases hx01 with rfl | rfl
      · have n1 : ¬ nI 0 = 1 := by decide
        refine ⟨D1, zp_l R1 0 17 ((zg_l R1 0 17) / 2), e1, ?_, Or.inr ⟨z3, hX.bR⟩, q0.trans ⟨fun _ _ _ _ _ => rfl, fun _ _ _ => rfl, fun _ _ _ => rfl, fun _ _ _ _ _ => rfl, fun k a1 => by simp [y_gl, a1]⟩⟩
        simp only [g_R_putEven, s2, n1, o_sb, ↓reduceIte, not_false_eq_true]
      · have n1 : ¬ ¬ nI 1 = 1 := fun t => t rfl
        have h27 : ¬ zg_i (zp_l R1 0 17 ((zg_l R1 0 17) / 2)) 0 27 = 0 := hX.bR
        refine ⟨D1, zp_l R1 0 17 ((zg_l R1 0 17) / 2), e1, ?_, Or.inr ⟨z3, hX.bR⟩, q0.trans ⟨fun _ _ _ _ _ => rfl, fun _ _ _ => rfl, fun _ _ _ => rfl, fun _ _ _ _ _ => rfl, fun k a1 => by simp [y_gl, a1]⟩⟩
        simp only [g_R_putEven, s2, n1, r_grL _ h27, o_sb, ↓reduceIte]
  · obtain ⟨R1, s1, s2, s3, s4, s5⟩ := r_shL h.bR
    rcases hx01 with rfl | rfl
    · have n1 : ¬ nI 0 = 1 := by decide
      refine ⟨D, zp_l R1 0 17 ((zg_l R1 0 17) / 2), c_evL _ h.bC, ?_, Or.inr ⟨h.bC, s2⟩, ⟨fun _ _ _ _ _ => rfl, fun _ _ _ => rfl, s3, fun p k a1 _ _ => s4 p k a1, fun k a1 => by simp [y_gl, a1, s5]⟩⟩
      simp only [g_R_putEven, s1, n1, o_sb, ↓reduceIte, not_false_eq_true]
    · have n1 : ¬ ¬ nI 1 = 1 := fun t => t rfl
      have h27 : ¬ zg_i (zp_l R1 0 17 ((zg_l R1 0 17) / 2)) 0 27 = 0 := s2
      refine ⟨D, zp_l R1 0 17 ((zg_l R1 0 17) / 2), c_evL _ h.bC, ?_, Or.inr ⟨h.bC, s2⟩, ⟨fun _ _ _ _ _ => rfl, fun _ _ _ => rfl, s3, fun p k a1 _ _ => s4 p k a1, fun k a1 => by simp [y_gl, a1, s5]⟩⟩
      simp only [g_R_putEven, s1, n1, r_grL _ h27, o_sb, ↓reduceIte]
theorem dv_bit (w j : Nat) : w / 2 ^ j = 2 * (w / 2 ^ (j + 1)) + w / 2 ^ j % 2 := by
  rw [Nat.pow_succ, ← Nat.div_div_eq_div_mul]
  omega
theorem p_treeL {n L lc lp pb st base base' kk w : Nat} (x2 : Int32) (hc : lc + lp ≤ 3) (hl : base + 2 ^ kk ≤ 2052 + 768 * 2 ^ (lc + lp)) (hk : kk ≤ 8) (hw : w < 2 ^ kk) (hf : ∀ v, v < 2 ^ kk → zf (base + v) = base' + v) : ∀ (j k1 k2 v : Nat) (D R : zx_D), j ≤ kk → j < k1 → j < k2 → v = 2 ^ (kk - j) + w / 2 ^ j → zE2 n L lc lp pb st D R →
    ∃ D' R', g_Mdl_codeTree_k_8 (nI base) x2 (nI w) k1 (nI v) (nI j - 1) D = some (nI (2 ^ kk + w), D') ∧ g_R_putTree_8 (nI base') (nI w) k2 (nI v) (nI j - 1) R = some R' ∧ zE2 n L lc lp pb st D' R' ∧ zH D D' R R'
  | 0, k1 + 1, k2 + 1, v, D, R, _, _, _, hv, h => by
    have e1 : nI 0 - 1 < 0 := by decide
    rw [Nat.sub_zero, Nat.pow_zero, Nat.div_one] at hv
    exact ⟨D, R, by rw [g_Mdl_codeTree_k_8, if_pos e1, hv], by rw [g_R_putTree_8, if_pos e1], h, zH_rfl⟩
  | j + 1, k1 + 1, k2 + 1, v, D, R, hj, h1, h2, hv, h => by
    have hp4 : 2 ^ kk ≤ 2 ^ 8 := Nat.pow_le_pow_right (by omega) hk
    have hp : 2 ^ (kk - j) = 2 * 2 ^ (kk - (j + 1)) := by rw [show kk - j = (kk - (j + 1)) + 1 by omega, Nat.pow_succ, Nat.mul_comm]
    have hvk : v < 2 ^ kk := by
      have h3 : w / 2 ^ (j + 1) < 2 ^ (kk - (j + 1)) := by
        apply Nat.div_lt_of_lt_mul
        rw [← Nat.pow_add, show j + 1 + (kk - (j + 1)) = kk by omega]
        exact hw
      have h4 : 2 ^ (kk - j) ≤ 2 ^ kk := Nat.pow_le_pow_right (by omega) (by omega)
      omega
    have e0 : nI (j + 1) - 1 = nI j := y_sub (a := j + 1) (b := 1) (by omega)
    have e1 : ¬ nI j < 0 := fun q => by have := (y_lt (b := 0) (by omega) (by omega)).mp q; omega
    have e3 : nI j + (-1) = nI j - 1 := (Int32.sub_eq_add_neg _ _).symm
    have hb : w / 2 ^ j % 2 ≤ 1 := by omega
    have eb : zo_ushr (nI w) (nI j) &&& 1 = nI (w / 2 ^ j % 2) := y_ubit (by omega) (by omega)
    have es : zo_shr (nI w) (nI j) = zo_ushr (nI w) (nI j) := y_sbit (by omega) (by omega)
    obtain ⟨D1, R1, t1, t2, t3, t4⟩ := p_bit2 (k := base + v) (x := w / 2 ^ j % 2) hc h (by omega) hb
    obtain ⟨D', R', u1, u2, u3, u4⟩ := p_treeL x2 hc hl hk hw hf j k1 k2 (2 * v + w / 2 ^ j % 2) D1 R1 (by omega) (by omega) (by omega) (by
      rw [hv, hp]
      have := dv_bit w j
      omega) t3
    refine ⟨D', R', ?_, ?_, u3, t4.trans u4⟩
    · rw [g_Mdl_codeTree_k_8, e0, if_neg e1, y_add, eb, t1, o_sb]
      show g_Mdl_codeTree_k_8 (nI base) x2 (nI w) k1 (2 * nI v + nI (w / 2 ^ j % 2)) (nI j + -1) D1 = _
      rw [y_dbl, e3]
      exact u1
    · rw [g_R_putTree_8, e0, if_neg e1, es, eb, y_add, ← hf v hvk, t2, o_sb, y_dbl, e3]
      exact u2
theorem p_tree {n L lc lp pb st base base' kk w : Nat} {D R : zx_D} (hc : lc + lp ≤ 3) (hl : base + 2 ^ kk ≤ 2052 + 768 * 2 ^ (lc + lp)) (hk : kk ≤ 8) (hw : w < 2 ^ kk) (hf : ∀ v, v < 2 ^ kk → zf (base + v) = base' + v) (h : zE2 n L lc lp pb st D R) : ∃ D' R', g_Mdl_codeTree_k (nI base) (nI kk) (nI w) D = some (nI w, D') ∧ g_R_putTree (nI base') (nI kk) (nI w) R = some R' ∧ zE2 n L lc lp pb st D' R' ∧ zH D D' R R' := by
  have e1 : zo_shl 1 (nI kk) = nI (2 ^ kk) := by
    have := y_shl1 (b := 1) (by omega) hk
    rw [Nat.one_mul] at this
    exact this
  obtain ⟨D', R', u1, u2, u3, u4⟩ := p_treeL (nI kk) hc hl hk hw hf kk 10000 10000 1 D R (Nat.le_refl _) (by omega) (by omega) (by rw [Nat.sub_self, Nat.div_eq_of_lt hw]) h
  have u1 : g_Mdl_codeTree_k_8 (nI base) (nI kk) (nI w) 10000 1 (nI kk - 1) D = some (nI (2 ^ kk + w), D') := u1
  have u2 : g_R_putTree_8 (nI base') (nI w) 10000 1 (nI kk - 1) R = some R' := u2
  refine ⟨D', R', ?_, ?_, u3, u4⟩
  · rw [g_Mdl_codeTree_k, u1, o_sb]
    show some (nI (2 ^ kk + w) - zo_shl 1 (nI kk), D') = _
    rw [e1, y_sub (by omega), show 2 ^ kk + w - 2 ^ kk = w by omega]
  · rw [g_R_putTree, u2, o_sb]
theorem p_backL {n L lc lp pb st base base' kk w w' : Nat} (hc : lc + lp ≤ 3) (hl : base + 2 ^ kk ≤ 2052 + 768 * 2 ^ (lc + lp)) (hk : kk ≤ 7) (hw : w < 256) (hw' : w' < 256) (hww : ∀ i, i < kk → w / 2 ^ i % 2 = w' / 2 ^ i % 2) (hf : ∀ v, v < 2 ^ kk → zf (base + v) = base' + v) : ∀ (j k1 k2 v : Nat) (D R : zx_D), j ≤ kk → j < k1 → j < k2 → 2 ^ (kk - j) ≤ v → v < 2 ^ (kk - j + 1) → zE2 n L lc lp pb st D R →
    ∃ D' R', g_Mdl_codeTreeBackwards_k_9 (nI base) (nI kk) (nI w) k1 (nI v) (nI (w % 2 ^ (kk - j))) (nI (kk - j)) D = some (nI (w % 2 ^ kk), D') ∧ g_R_putBackwards_6 (nI base') (nI kk) (nI w') k2 (nI v) (nI (kk - j)) R = some R' ∧ zE2 n L lc lp pb st D' R' ∧ zH D D' R R'
  | 0, k1 + 1, k2 + 1, v, D, R, _, _, _, hv1, hv2, h => by
    have e2 : nI kk ≤ nI (kk - 0) := by rw [Nat.sub_zero]; exact Int32.le_refl _
    exact ⟨D, R, by rw [g_Mdl_codeTreeBackwards_k_9, if_pos e2, Nat.sub_zero], by rw [g_R_putBackwards_6, if_pos e2], h, zH_rfl⟩
  | j + 1, k1 + 1, k2 + 1, v, D, R, hj, h1, h2, hv1, hv2, h => by
    have hp : 2 ^ (kk - (j + 1) + 1) = 2 ^ (kk - j) := by congr 1; omega
    have hp2 : 2 ^ (kk - j) = 2 * 2 ^ (kk - (j + 1)) := by rw [← hp, Nat.pow_succ, Nat.mul_comm]
    have hp3 : 2 ^ (kk - j) ≤ 2 ^ kk := Nat.pow_le_pow_right (by omega) (by omega)
    have hp4 : 2 ^ kk ≤ 2 ^ 7 := Nat.pow_le_pow_right (by omega) hk
    have hp5 : 2 ^ (kk - j + 1) = 2 * 2 ^ (kk - j) := by rw [Nat.pow_succ, Nat.mul_comm]
    rw [hp] at hv2
    have hvk : v < 2 ^ kk := by omega
    have e2 : ¬ nI kk ≤ nI (kk - (j + 1)) := fun q => by have := (y_le (by omega) (by omega)).mp q; omega
    have e4 : kk - (j + 1) + 1 = kk - j := by omega
    obtain ⟨i, hi⟩ : ∃ i, i = kk - (j + 1) := ⟨_, rfl⟩
    have hb : w / 2 ^ i % 2 ≤ 1 := by omega
    have eb : zo_ushr (nI w) (nI i) &&& 1 = nI (w / 2 ^ i % 2) := y_ubit hw (by omega)
    have eb' : zo_ushr (nI w') (nI i) &&& 1 = nI (w / 2 ^ i % 2) := by
      rw [hww i (by omega)]
      exact y_ubit hw' (by omega)
    have es : zo_shr (nI w') (nI i) = zo_ushr (nI w') (nI i) := y_sbit hw' (by omega)
    have sh : zo_shl (nI (w / 2 ^ i % 2)) (nI i) = nI (w / 2 ^ i % 2 * 2 ^ i) := y_shl1 hb (by omega)
    have em : w % 2 ^ i + w / 2 ^ i % 2 * 2 ^ i = w % 2 ^ (kk - j) := by
      rw [show kk - j = i + 1 by omega, Nat.pow_succ, Nat.mod_mul, Nat.mul_comm (w / 2 ^ i % 2)]
    obtain ⟨D1, R1, t1, t2, t3, t4⟩ := p_bit2 (k := base + v) (x := w / 2 ^ i % 2) hc h (by omega) hb
    obtain ⟨D', R', u1, u2, u3, u4⟩ := p_backL hc hl hk hw hw' hww hf j k1 k2 (2 * v + w / 2 ^ i % 2) D1 R1 (by omega) (by omega) (by omega) (by omega) (by omega) t3
    refine ⟨D', R', ?_, ?_, u3, t4.trans u4⟩
    · rw [g_Mdl_codeTreeBackwards_k_9, if_neg e2, y_add, ← hi, eb, t1, o_sb]
      show g_Mdl_codeTreeBackwards_k_9 (nI base) (nI kk) (nI w) k1 (2 * nI v + nI (w / 2 ^ i % 2)) (nI (w % 2 ^ i) + zo_shl (nI (w / 2 ^ i % 2)) (nI i)) (nI i + 1) D1 = _
      rw [y_dbl, sh, y_add, em, y_1, show i + 1 = kk - j by omega]
      exact u1
    · rw [g_R_putBackwards_6, if_neg e2, ← hi, es, eb', y_add, ← hf v hvk, t2, o_sb, y_dbl, y_1, show i + 1 = kk - j by omega]
      exact u2
theorem p_back {n L lc lp pb st base base' kk w w' : Nat} {D R : zx_D} (hc : lc + lp ≤ 3) (hl : base + 2 ^ kk ≤ 2052 + 768 * 2 ^ (lc + lp)) (hk : kk ≤ 7) (hw : w < 256) (hw' : w' < 256) (hww : ∀ i, i < kk → w / 2 ^ i % 2 = w' / 2 ^ i % 2) (hf : ∀ v, v < 2 ^ kk → zf (base + v) = base' + v) (h : zE2 n L lc lp pb st D R) : ∃ D' R', g_Mdl_codeTreeBackwards_k (nI base) (nI kk) (nI w) D = some (nI (w % 2 ^ kk), D') ∧ g_R_putBackwards (nI base') (nI kk) (nI w') R = some R' ∧ zE2 n L lc lp pb st D' R' ∧ zH D D' R R' := by
  obtain ⟨D', R', u1, u2, u3, u4⟩ := p_backL hc hl hk hw hw' hww hf kk 10000 10000 1 D R (Nat.le_refl _) (by omega) (by omega) (by rw [Nat.sub_self]; exact Nat.le_refl _) (by rw [Nat.sub_self]; decide) h
  rw [Nat.sub_self, Nat.pow_zero, Nat.mod_one] at u1
  rw [Nat.sub_self] at u2
  have u1 : g_Mdl_codeTreeBackwards_k_9 (nI base) (nI kk) (nI w) 10000 1 0 0 D = some (nI (w % 2 ^ kk), D') := u1
  have u2 : g_R_putBackwards_6 (nI base') (nI kk) (nI w') 10000 1 0 R = some R' := u2
  exact ⟨D', R', by rw [g_Mdl_codeTreeBackwards_k, u1, o_sb], by rw [g_R_putBackwards, u2, o_sb], u3, u4⟩
