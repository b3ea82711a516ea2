theorem r_blockOf {x1 x2 x3 u : Int32} {R1 R2 R3 R4 : zx_D} (h1 : r_bk1 x1 x2 x3 R1 = some R2) (h2 : g_R_writeChunks_31 x2 x3 10000 0 0 (zp_i (zp_i (zp_i R2 0 9 (zo_rem x2 9)) 0 10 (zo_rem (x2 / 9) 5)) 0 11 (x2 / 45)) = some R3) (h3 : r_bk3 x1 (zg_i R1 0 7) R3 = some (u, R4)) : g_R_writeBlock x1 x2 x3 R1 = some (u, R4) := by
  unfold r_bk1 at h1
  obtain ⟨q1, a1, h1⟩ := zk_bind h1
  obtain ⟨q2, a2, h1⟩ := zk_bind h1
  obtain ⟨q3, a3, h1⟩ := zk_bind h1
  obtain ⟨q4, a4, h1⟩ := zk_bind h1
  obtain ⟨q5, a5, h1⟩ := zk_bind h1
  unfold r_bk3 at h3
  obtain ⟨q8, a8, h3⟩ := zk_bind h3
  have C : g_R_writeChunks x2 x3 R2 = some q8 := by rw [g_R_writeChunks, h2, o_sb, a8, o_sb]
  rw [g_R_writeBlock, a1, o_sb, a2, o_sb, a3, o_sb, a4, o_sb, a5, o_sb, h1, o_sb, C, o_sb]
  exact h3
theorem r_packOf {x1 x2 x3 u qv : Int32} {R R1 R2 R3 R4 : zx_D} (i1 : g_R_isSort x1 R = some 1) (i2 : g_R_isProperties x2 R = some 1) (l1 : ¬ x3 < 1) (l2 : x3 ≤ 400) (h1 : r_pk1 x1 x2 x3 R = some R1) (h2 : ((if zg_i R1 0 1 ≤ 0 then some (0, R1) else (g_R_writeBlock x1 x2 x3 R1).bind fun q9 => some (q9.1, q9.2)) : Option (Int32 × zx_D)) = some (u, R2)) (h3 : r_ix u (zg_i R2 0 7) R2 = some R3) (hq : (((zg_i R3 0 7) - (zg_i R2 0 7)) / 4) - 1 = qv) (h4 : r_pk3 x1 qv R3 = some R4) : g_R_pack x1 x2 x3 R = if zg_i R4 0 7 ≤ 640 then (g_R_pack_293 10000 0 (zp_i R4 0 3 (zg_i R4 0 7))).bind fun q29 => some (zg_i q29 0 3, q29) else some (-5, R4) := by
  have z1 : ¬ (1 : Int32) = 0 := by decide
  unfold r_pk1 at h1
  obtain ⟨q5, a5, h1⟩ := zk_bind h1
  obtain ⟨q6, a6, h1⟩ := zk_bind h1
  obtain ⟨q7, a7, h1⟩ := zk_bind h1
  unfold r_ix at h3
  obtain ⟨q11, a11, h3⟩ := zk_bind h3
  obtain ⟨q12, a12, h3⟩ := zk_bind h3
  obtain ⟨q13, a13, h3⟩ := zk_bind h3
  obtain ⟨q16, a16, h3⟩ := zk_bind h3
  obtain ⟨q17, a17, h3⟩ := zk_bind h3
  unfold r_pk3 at h4
  obtain ⟨q22, a22, h4⟩ := zk_bind h4
  obtain ⟨q23, a23, h4⟩ := zk_bind h4
  obtain ⟨q24, a24, h4⟩ := zk_bind h4
  obtain ⟨q25, a25, h4⟩ := zk_bind h4
  obtain ⟨q26, a26, h4⟩ := zk_bind h4
  obtain ⟨q27, a27, h4⟩ := zk_bind h4
  rw [g_R_pack, i1, o_sb, if_neg z1, i2, o_sb, if_neg z1, if_neg l1, if_pos l2, a5, o_sb, a6, o_sb, a7, o_sb, h1, o_sb, h2, o_sb]
  rw [a11, o_sb, a12, o_sb, a13, o_sb, a16, o_sb, a17, o_sb, h3, o_sb, hq, a22, o_sb, a23, o_sb, a24, o_sb, a25, o_sb, a26, o_sb, a27, o_sb, h4, o_sb]
theorem k_mid {n cs pr ln : Nat} {x1 : Int32} {D1 R1 : zx_D} (hx : x1 = 0 ∨ x1 = 1 ∨ x1 = 4) (hp : pr < 225) (hpp : pr % 9 + pr / 9 % 5 ≤ 3) (hcs : 1 ≤ cs) (hcs2 : cs ≤ 400) (W : zWo 12 D1 R1) (hn : n ≤ 400) (nC : zg_i D1 1 1 = nI n) (nR : zg_i R1 0 1 = nI n) (pB : ∀ i, i < n → zg_i D1 2 i = zg_i R1 1 i ∧ y_B (zg_i R1 1 i)) (c5 : zg_i D1 17 5 = x1) (c6 : zg_i D1 17 6 = nI pr) :
    ∃ ln' D2 R2 v u, ((if zg_i D1 1 1 ≤ 0 then some (ln, D1) else (g_Pkg_writeHead D1).bind fun q4 => (g_P_pack_62 (nI cs) 10000 0 ln q4).bind fun q6 => (g_Pkg_closeBlock q6.2).bind fun q7 => some (q6.1, q7)) : Option (Nat × zx_D)) = some (ln', D2) ∧ ((if zg_i R1 0 1 ≤ 0 then some (0, R1) else (g_R_writeBlock x1 (nI pr) (nI cs) R1).bind fun q9 => some (q9.1, q9.2)) : Option (Int32 × zx_D)) = some (nI u, R2) ∧ zWg v D2 R2 ∧ v < 2 ^ 19 ∧ u < 2 ^ 20 ∧ (1 ≤ n → v ≤ 640 → zg_l D2 17 8 = nL u) ∧ zKf D1 D2 R1 R2 ∧ zg_i D2 17 5 = x1 := by
  rw [nC, nR]
  by_cases t : n = 0
  · have l : nI n ≤ 0 := by rw [t]; decide
    rw [if_pos l, if_pos l]
    exact ⟨ln, D1, R1, 12, 0, rfl, rfl, W.g, by omega, by omega, fun q => by omega, zHp_rfl.k, c5⟩
  · have l : ¬ nI n ≤ 0 := fun q => by have := (y_le (b := 0) (by omega) (by omega)).mp q; omega
    rw [if_neg l, if_neg l]
    obtain ⟨D2, R2, a1, a2, a3, a4⟩ := k_head x1 (nI pr) (nI cs) W.g (by omega)
    have e1 : zo_rem (nI pr) 9 = nI (pr % 9) := by rw [show (9 : Int32) = nI 9 from rfl, y_rem (by omega) (by omega)]
    have e2 : zo_rem (nI pr / 9) 5 = nI (pr / 9 % 5) := by rw [show (9 : Int32) = nI 9 from rfl, y_div (by omega) (by omega), show (5 : Int32) = nI 5 from rfl, y_rem (by omega) (by omega)]
    have e3 : nI pr / 45 = nI (pr / 45) := by rw [show (45 : Int32) = nI 45 from rfl, y_div (by omega) (by omega)]
    have d0 : ∀ p k, p ≠ 17 → p ≠ 18 → p ≠ 19 → zg_i D2 p k = zg_i D1 p k := fun p k q1 q2 q3 => by
      rw [a4.c p k q2 q3, y_gi, if_neg (by omega), y_gi, if_neg (by omega), y_gi, if_neg (by omega), y_gi, if_neg (by omega)]
    obtain ⟨R2', hR2'⟩ : ∃ R2', R2' = zp_i (zp_i (zp_i R2 0 9 (nI (pr % 9))) 0 10 (nI (pr / 9 % 5))) 0 11 (nI (pr / 45)) := ⟨_, rfl⟩
    have r0 : ∀ p k, ¬ (p = 0 ∧ 9 ≤ k ∧ k ≤ 11) → zg_i R2' p k = zg_i R2 p k := fun p k q1 => by
      rw [hR2', y_gi, if_neg (by omega), y_gi, if_neg (by omega), y_gi, if_neg (by omega)]
    have r0l : ∀ p k, zg_l R2' p k = zg_l R2 p k := fun p k => by
      rw [hR2']
      rfl
    have W2 : zWg (12 + 12) D2 R2' := a3.q rfl rfl (fun _ => rfl) (r0 0 7 (by omega)) (fun i => r0 4 i (by omega))
    have P : zPc n pr (pr % 9) (pr / 9 % 5) (pr / 45) (12 + 12) 0 0 D2 R2' := by
      refine ⟨hn, fun i hi => ?_, W2, (d0 1 1 (by omega) (by omega) (by omega)).trans nC, (r0 0 1 (by omega)).trans ((a4.r 1 (by omega)).trans nR), hpp, by omega, e1, e2, e3, hp, ?_, Or.inl rfl, ?_, ?_, ?_, ?_, ?_, ?_, fun q => by omega⟩
      · rw [d0 2 i (by omega) (by omega) (by omega), r0 1 i (by omega), a4.rp 1 i (by omega) (by omega)]
        exact pB i hi
      · exact (a4.c 17 6 (by omega) (by omega)).trans c6
      · rw [if_pos rfl]
        exact a4.c 17 10 (by omega) (by omega)
      · rw [if_pos rfl]
        exact a4.c 17 11 (by omega) (by omega)
      · rw [if_neg (by omega)]
        exact a4.c 17 12 (by omega) (by omega)
      · rw [hR2']
        rfl
      · rw [hR2']
        rfl
      · rw [hR2']
        rfl
    obtain ⟨r2', v3, D3, R3, b1, b2, b3, b4, b5, b6⟩ := s_loop (cs := cs) hcs hcs2 n 10000 10000 0 (12 + 12) 0 ln D2 D2 R2' (by omega) (by omega) (by omega) (by omega) P (by omega) W2 (fun _ => rfl) P.nC
    have b1 : g_P_pack_62 (nI cs) 10000 0 ln D2 = some (r2', D3) := b1
    have b2 : g_R_writeChunks_31 (nI pr) (nI cs) 10000 0 0 R2' = some R3 := b2
    have c7 : zg_i D3 17 7 = nI 12 := (b6.c 17 7 (by omega) (by omega) (by omega) (by omega) (by omega) (by omega) (by omega)).trans (a4.c 17 7 (by omega) (by omega))
    have c5' : zg_i D3 17 5 = x1 := (b6.c 17 5 (by omega) (by omega) (by omega) (by omega) (by omega) (by omega) (by omega)).trans ((a4.c 17 5 (by omega) (by omega)).trans c5)
    obtain ⟨D4, R4, v4, u, f1, f2, f3, f4, f5, f6, f7, f8, f9, f10, f11, f12⟩ := k_close (n := n) (s := 12) hx b3 (by omega) (by omega) (by omega) hn ((b6.c 1 1 (by omega) (by omega) (by omega) (by omega) (by omega) (by omega) (by omega)).trans P.nC) ((b6.r 1 (by omega) (by omega) (by omega)).trans P.nR) (fun i hi => by
      rw [b6.c 2 i (by omega) (by omega) (by omega) (by omega) (by omega) (by omega) (by omega), b6.rp 1 i (by omega) (by omega) (by omega) (by omega)]
      exact P.pB i hi) c7 c5'
    have w1 : zKf D1 D2 R1 R2 := ⟨fun p k q => d0 p k (by omega) (by omega) (by omega), fun k q1 q2 => d0 22 k (by omega) (by omega) (by omega), fun k => (a4.cl 5 k).trans rfl, fun k q => a4.r k (by omega), fun p k q => a4.rp p k (by omega) (by omega), fun k q => a4.rl 0 k⟩
    have w2 : zKf D2 D2 R2 R2' := ⟨fun _ _ _ => rfl, fun _ _ _ => rfl, fun _ => rfl, fun k q => r0 0 k (by omega), fun p k q => r0 p k (by omega), fun k q => r0l 0 k⟩
    have w3 : zKf D3 D4 R3 R4 := ⟨fun p k q => f8 p k (by omega) (by omega), fun k q1 q2 => f8 22 k (by omega) (by omega), fun k => f9 5 k (by omega), fun k q => f10 k (by omega), fun p k q => f11 p k (by omega) (by omega), fun k q => f12 0 k⟩
    have B : g_R_writeBlock x1 (nI pr) (nI cs) R1 = some (nI u, R4) := by
      refine r_blockOf a2 (R3 := R3) ?_ ?_
      · rw [e1, e2, e3, ← hR2']
        exact b2
      · rw [W.sR]
        exact f2
    refine ⟨r2', D4, R4, v4, u, ?_, ?_, f3, by omega, by omega, fun _ => f7, ((w1.trans w2).trans b6.k).trans w3, (f8 17 5 (by omega) (by omega)).trans c5'⟩
    · rw [a1, o_sb, b1, o_sb, f1, o_sb]
    · rw [B, o_sb]
theorem s_pack {n m : Nat} {D R : zx_D} (h : zI n m D R) (ln pp : Nat) (x1 x2 x3 : Int32) : ∃ q q' m', g_P_pack ln pp x1 x2 x3 D = some q ∧ g_R_pack x1 x2 x3 R = some q' ∧ q.1 = q'.1 ∧ zI n m' q.2.2.2 q'.2 := by
  have z4 : ¬ (1 : Int32) = 0 := by decide
  rcases s_sort x1 with ⟨hs, i1, i2⟩ | ⟨i1, i2⟩
  · rcases s_props x2 with ⟨p1, p2, pr, hp, rfl, hpp⟩ | ⟨p1, p2⟩
    · by_cases h1 : x3 < 1
      · exact ⟨(-3, ln, pp, D), (-3, R), m, by rw [g_P_pack, i1, o_sb, if_neg z4, p1, o_sb, if_neg z4, if_pos h1], by rw [g_R_pack, i2, o_sb, if_neg z4, p2, o_sb, if_neg z4, if_pos h1], rfl, h⟩
      · by_cases h4 : x3 ≤ 400
        · have h0 : ¬ x3 < 0 := fun q => h1 (Int32.lt_trans q (by decide))
          obtain ⟨cs, hcs0, rfl⟩ := y_ex h0
          have hcs : 1 ≤ cs := by
            by_cases q : cs < 1
            · exact absurd ((y_lt (b := 1) (by omega) (by omega)).mpr q) h1
            · omega
          have hcs2 : cs ≤ 400 := (y_le (b := 400) (by omega) (by omega)).mp h4
          have hB : y_B x1 := by
            rcases hs with rfl | rfl | rfl
            · exact ⟨0, by omega, rfl⟩
            · exact ⟨1, by omega, rfl⟩
            · exact ⟨4, by omega, rfl⟩
          obtain ⟨D1, R1, a1, a2, a3, a4⟩ := w_begin x1 (nI pr) (nI cs) hB D R
          have d0 : ∀ p k, p ≠ 17 → p ≠ 18 → p ≠ 19 → zg_i D1 p k = zg_i D p k := fun p k q1 q2 q3 => by
            rw [a4.c p k q2 q3, y_gi, if_neg (by omega), y_gi, if_neg (by omega)]
          have w1 : zKf D D1 R R1 := ⟨fun p k q => d0 p k (by omega) (by omega) (by omega), fun k q1 q2 => d0 22 k (by omega) (by omega) (by omega), fun k => (a4.cl 5 k).trans rfl, fun k q => a4.r k (by omega), fun p k q => a4.rp p k (by omega) (by omega), fun k q => a4.rl 0 k⟩
          have hI1 := zI_k h w1
          obtain ⟨ln', D2, R2, v, u, b1, b2, b3, b4, b5, b6, b7, b8⟩ := k_mid (ln := ln) hs hp hpp hcs hcs2 a3 h.hn hI1.pC hI1.pR hI1.pB (a4.c 17 5 (by omega) (by omega)) (a4.c 17 6 (by omega) (by omega))
          have hI2 := zI_k hI1 b7
          obtain ⟨D3, R3, qv, c1, c2, c3, c4, c5, c6, c7, c8, c9, c10⟩ := k_index (n := n) (u := u) b3 (by omega) b5 h.hn hI2.pC hI2.pR b6
          have w3 : zKf D2 D3 R2 R3 := ⟨fun p k q => c6 p k (by omega) (by omega) (by omega), fun k q1 q2 => c6 22 k (by omega) (by omega) (by omega), fun k => c7 5 k, fun k q => c8 k (by omega), fun p k q => c9 p k (by omega) (by omega), fun k q => c10 0 k⟩
          have hI3 := zI_k hI2 w3
          obtain ⟨D4, R4, f1, f2, f3, f4⟩ := kp_end c4 (by omega) c3 hB c5 ((c6 17 5 (by omega) (by omega) (by omega)).trans b8) hI3.en
          have hI4 := zI_k hI3 f4
          have K := ((w1.trans b7).trans w3).trans f4
          have hq : (((zg_i R3 0 7) - (zg_i R2 0 7)) / 4) - 1 = nI qv := by
            rw [c4.sR, b3.sR, y_sub (by omega), show v + 4 * (qv + 1) - v = 4 * (qv + 1) by omega, show (4 : Int32) = nI 4 from rfl, y_div (by omega) (by omega), show 4 * (qv + 1) / 4 = qv + 1 by omega]
            exact y_sub (a := qv + 1) (b := 1) (by omega)
          have uR := r_packOf (i2 R) (p2 R) h1 h4 a2 b2 (by rw [b3.sR]; exact c2) hq f2
          have uC : g_P_pack ln pp x1 (nI pr) (nI cs) D = if zg_i D4 18 2 = 0 then (g_Row_become_3_18 D4).bind fun q11 => some (zg_i q11 3 1, ln', 1, q11) else some (-5, ln', 1, D4) := by
            rw [g_P_pack, i1, o_sb, if_neg z4, p1, o_sb, if_neg z4, if_neg h1, if_pos h4, a1, o_sb, b1, o_sb]
            rw [c1, o_sb, f1, o_sb]
          rw [uC, uR, f3.sR]
          by_cases t : v + 4 * (qv + 1) + 12 ≤ 640
          · have Wo := f3.o t
            rw [if_pos Wo.oC, if_pos (show nI (v + 4 * (qv + 1) + 12) ≤ 640 from (y_le (b := 640) (by omega) (by omega)).mpr t)]
            obtain ⟨D5, R5, g1, g2, g3, g4, g5⟩ := k_become h K Wo
            rw [f3.sR] at g2
            rw [g1, o_sb, g2, o_sb, g3, g4]
            exact ⟨_, _, _, rfl, rfl, rfl, g5⟩
          · have Wf := (f3.f (by omega)).2
            rw [Wf, if_neg z4, if_neg (show ¬ nI (v + 4 * (qv + 1) + 12) ≤ 640 from fun q => t ((y_le (b := 640) (by omega) (by omega)).mp q))]
            exact ⟨_, _, _, rfl, rfl, rfl, hI4⟩
        · exact ⟨(-3, ln, pp, D), (-3, R), m, by rw [g_P_pack, i1, o_sb, if_neg z4, p1, o_sb, if_neg z4, if_neg h1, if_neg h4], by rw [g_R_pack, i2, o_sb, if_neg z4, p2, o_sb, if_neg z4, if_neg h1, if_neg h4], rfl, h⟩
    · exact ⟨(-3, ln, pp, D), (-3, R), m, by rw [g_P_pack, i1, o_sb, if_neg z4, p1, o_sb, if_pos rfl], by rw [g_R_pack, i2, o_sb, if_neg z4, p2, o_sb, if_pos rfl], rfl, h⟩
  · exact ⟨(-3, ln, pp, D), (-3, R), m, by rw [g_P_pack, i1, o_sb, if_pos rfl], by rw [g_R_pack, i2, o_sb, if_pos rfl], rfl, h⟩
