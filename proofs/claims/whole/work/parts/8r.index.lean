abbrev zKf (D D' R R' : zx_D) : Prop := Nonempty ((∀ p k, p ≤ 5 ∨ p = 12 ∨ p = 14 → zg_i D' p k = zg_i D p k) ∧ (∀ k, 1 ≤ k → k ≤ 4 → zg_i D' 22 k = zg_i D 22 k) ∧ (∀ k, zg_l D' 5 k = zg_l D 5 k) ∧ (∀ k, k ≤ 3 ∨ k = 30 ∨ k = 37 → zg_i R' 0 k = zg_i R 0 k) ∧ (∀ p k, p = 1 ∨ p = 2 ∨ p = 9 → zg_i R' p k = zg_i R p k) ∧ (∀ k, 39 ≤ k → zg_l R' 0 k = zg_l R 0 k))
theorem zKf.c {D D' R R' : zx_D} (h : zKf D D' R R') : ∀ p k, p ≤ 5 ∨ p = 12 ∨ p = 14 → zg_i D' p k = zg_i D p k := h.elim fun q => q.1
theorem zKf.c22 {D D' R R' : zx_D} (h : zKf D D' R R') : ∀ k, 1 ≤ k → k ≤ 4 → zg_i D' 22 k = zg_i D 22 k := h.elim fun q => q.2.1
theorem zKf.cl {D D' R R' : zx_D} (h : zKf D D' R R') : ∀ k, zg_l D' 5 k = zg_l D 5 k := h.elim fun q => q.2.2.1
theorem zKf.r {D D' R R' : zx_D} (h : zKf D D' R R') : ∀ k, k ≤ 3 ∨ k = 30 ∨ k = 37 → zg_i R' 0 k = zg_i R 0 k := h.elim fun q => q.2.2.2.1
theorem zKf.rp {D D' R R' : zx_D} (h : zKf D D' R R') : ∀ p k, p = 1 ∨ p = 2 ∨ p = 9 → zg_i R' p k = zg_i R p k := h.elim fun q => q.2.2.2.2.1
theorem zKf.rl {D D' R R' : zx_D} (h : zKf D D' R R') : ∀ k, 39 ≤ k → zg_l R' 0 k = zg_l R 0 k := h.elim fun q => q.2.2.2.2.2
theorem zKf.trans {D D' D'' R R' R'' : zx_D} (h1 : zKf D D' R R') (h2 : zKf D' D'' R' R'') : zKf D D'' R R'' :=
  ⟨fun p k a => (h2.c p k a).trans (h1.c p k a), fun k a b => (h2.c22 k a b).trans (h1.c22 k a b), fun k => (h2.cl k).trans (h1.cl k), fun k a => (h2.r k a).trans (h1.r k a), fun p k a => (h2.rp p k a).trans (h1.rp p k a), fun k a => (h2.rl k a).trans (h1.rl k a)⟩
theorem zHp.k {D D' R R' : zx_D} (h : zHp D D' R R') : zKf D D' R R' := ⟨fun p k a => h.c p k (by omega) (by omega) (by omega) (by omega) (by omega) (by omega) (by omega), fun k _ _ => h.c 22 k (by omega) (by omega) (by omega) (by omega) (by omega) (by omega) (by omega), fun k => h.cl 5 k (by omega) (by omega) (by omega), fun k a => h.r k (by omega) (by omega) (by omega), fun p k a => h.rp p k (by omega) (by omega) (by omega) (by omega), fun k a => h.rl k (by omega)⟩
theorem zWq.k {D D' R R' : zx_D} (h : zWq D D' R R') : zKf D D' R R' := h.p.k
def r_ix (u s : Int32) (q : zx_D) : Option zx_D :=
  (g_R_write 0 q).bind fun q11 =>
  ((
    if zg_i q11 0 1 ≤ 0 then
      some 0
    else
      some 1
  ) : Option (Int32)).bind fun q12 =>
  (g_R_writeVli q12 q11).bind fun q13 =>
  ((
    if zg_i q13 0 1 ≤ 0 then
      some q13
    else
      (g_R_writeVli u q13).bind fun q14 =>
      (g_R_writeVli (zg_i q14 0 1) q14).bind fun q15 =>
      some q15
  ) : Option (zx_D)).bind fun q16 =>
  (g_R_writeZeros s q16).bind fun q17 =>
  (g_R_writeSum s q17)
theorem k_index {n v u : Nat} {D R : zx_D} (h : zWg v D R) (hv : v + 60 < 2 ^ 20) (hu : u < 2 ^ 20) (hn : n ≤ 400) (nC : zg_i D 1 1 = nI n) (nR : zg_i R 0 1 = nI n) (c8 : 1 ≤ n → v ≤ 640 → zg_l D 17 8 = nL u) :
    ∃ D' R' qv, g_Pkg_writeIndex D = some D' ∧ r_ix (nI u) (nI v) R = some R' ∧ qv ≤ 3 ∧ zWg (v + 4 * (qv + 1)) D' R' ∧ (v + 4 * (qv + 1) ≤ 640 → zg_i D' 17 9 = nI (4 * (qv + 1))) ∧ (∀ p k, p ≠ 18 → p ≠ 19 → ¬ (p = 17 ∧ k = 9) → zg_i D' p k = zg_i D p k) ∧ (∀ p k, zg_l D' p k = zg_l D p k) ∧ (∀ k, k ≠ 7 → zg_i R' 0 k = zg_i R 0 k) ∧ (∀ p k, p ≠ 0 → p ≠ 4 → zg_i R' p k = zg_i R p k) ∧ (∀ p k, zg_l R' p k = zg_l R p k) := by
  obtain ⟨D1, R1, a1, a2, a3, a4⟩ := w_g2 (b := 0) (b' := 0) h (fun _ => ⟨rfl, 0, by omega, rfl⟩) (by omega)
  have n1 : zg_i D1 1 1 = nI n := (a4.c 1 1 (by omega) (by omega)).trans nC
  have n2 : zg_i R1 0 1 = nI n := (a4.r 1 (by omega)).trans nR
  obtain ⟨D2, R2, v2, b1, b2, b3, b4, b5, b6⟩ : ∃ D2 R2 v2, ((if zg_i D1 1 1 ≤ 0 then (g_Pkg_appendNumber 0 D1).bind fun q2 => some q2 else (g_Pkg_appendNumber 1 D1).bind fun q3 => (g_Pkg_appendNumber (zg_l q3 17 8) q3).bind fun q4 => (g_Pkg_appendNumber (((zg_i q4 1 1)).toInt64) q4).bind fun q5 => some q5) : Option zx_D) = some D2 ∧ (((if zg_i R1 0 1 ≤ 0 then some 0 else some 1) : Option Int32).bind fun q12 => (g_R_writeVli q12 R1).bind fun q13 => (if zg_i q13 0 1 ≤ 0 then some q13 else (g_R_writeVli (nI u) q13).bind fun q14 => (g_R_writeVli (zg_i q14 0 1) q14).bind fun q15 => some q15)) = some R2 ∧ zWg v2 D2 R2 ∧ v + 2 ≤ v2 ∧ v2 ≤ v + 10 ∧ zWq D1 D2 R1 R2 := by
    rw [n1, n2]
    by_cases t : n = 0
    · have l : nI n ≤ 0 := by rw [t]; decide
      rw [if_pos l, if_pos l]
      obtain ⟨v2, D2, R2, c1, c2, c3, c4, c5, c6⟩ := w_vli (u := 0) (x := 0) a3 (by omega) (fun _ => rfl) (by omega)
      have c4 : g_R_writeVli 0 R1 = some R2 := c4
      refine ⟨D2, R2, v2, by rw [c3, o_sb], ?_, c5, by omega, by omega, c6⟩
      rw [o_sb, c4, o_sb, c6.r 1 (by omega), n2, if_pos l]
    · have l : ¬ nI n ≤ 0 := fun q => by have := (y_le (b := 0) (by omega) (by omega)).mp q; omega
      rw [if_neg l, if_neg l]
      obtain ⟨v2, D2, R2, c1, c2, c3, c4, c5, c6⟩ := w_vli (u := 1) (x := 1) a3 (by omega) (fun _ => rfl) (by omega)
      have c4 : g_R_writeVli 1 R1 = some R2 := c4
      have e8 : v2 ≤ 640 → zg_l D2 17 8 = nL u := fun q => by
        rw [c6.cl 17 8, a4.cl 17 8]
        exact c8 (by omega) (by omega)
      obtain ⟨v3, D3, R3, d1, d2, d3, d4, d5, d6⟩ := w_vli (u := u) (x := zg_l D2 17 8) c5 hu e8 (by omega)
      have m1 : zg_i D3 1 1 = nI n := by rw [d6.c 1 1 (by omega) (by omega), c6.c 1 1 (by omega) (by omega), n1]
      have m2 : zg_i R3 0 1 = nI n := by rw [d6.r 1 (by omega), c6.r 1 (by omega), n2]
      obtain ⟨v4, D4, R4, f1, f2, f3, f4, f5, f6⟩ := w_vli (u := n) (x := nL n) d5 (by omega) (fun _ => rfl) (by omega)
      refine ⟨D4, R4, v4, ?_, ?_, f5, by omega, by omega, (c6.trans d6).trans f6⟩
      · rw [c3, o_sb, d3, o_sb, m1, v_of (by omega), f3, o_sb]
      · rw [o_sb, c4, o_sb, c6.r 1 (by omega), n2, if_neg l, d4, o_sb, m2, f4, o_sb]
  obtain ⟨v3, D3, R3, d1, d2, d3, d4, d5, d6, d7⟩ := w_zeroG (s := v) b3 (by omega) (by omega)
  obtain ⟨D4, R4, x, f1, f2, f3, f4, f5⟩ := w_wsum (s := v) d6 (by omega) (by omega)
  have w := ((a4.trans b6).trans d7).trans f5
  obtain ⟨qv, hq1, hq2⟩ : ∃ qv, v3 + 4 = v + 4 * (qv + 1) ∧ qv ≤ 3 := ⟨(v3 - v) / 4, by omega, by omega⟩
  rw [hq1] at f4
  refine ⟨zp_i D4 17 9 (zg_i D4 18 1 - zg_i D 18 1), R4, qv, ?_, ?_, hq2, f4.q rfl rfl (fun _ => rfl) rfl (fun _ => rfl), fun q => ?_, fun p k x1 x2 x3 => ?_, fun p k => (w.cl p k).trans rfl, fun k x1 => w.r k x1, fun p k x1 x2 => w.rp p k x1 x2, fun p k => w.rl p k⟩
  · rw [g_Pkg_writeIndex, a1, o_sb, b1, o_sb]
    have e := h.sC
    rw [e, d4, o_sb, f1, o_sb, f2, o_sb]
  · unfold r_ix
    rw [a2, o_sb]
    have e : ∀ (o : Option Int32) (f : Int32 → zx_D → Option zx_D) (g : zx_D → Option zx_D) (k : zx_D → Option zx_D), (o.bind fun q12 => (f q12 R1).bind fun q13 => (g q13).bind k) = (o.bind fun q12 => (f q12 R1).bind fun q13 => g q13).bind k := by
      intro o f g k
      rw [Option.bind_assoc]
      congr 1
      funext q12
      rw [Option.bind_assoc]
    rw [e (if zg_i R1 0 1 ≤ 0 then some 0 else some 1) g_R_writeVli (fun q13 => (if zg_i q13 0 1 ≤ 0 then some q13 else (g_R_writeVli (nI u) q13).bind fun q14 => (g_R_writeVli (zg_i q14 0 1) q14).bind fun q15 => some q15))]
    rw [b2, o_sb, d5, o_sb, f3]
  · show zg_i D4 18 1 - zg_i D 18 1 = _
    rw [(f4.o q).sC, (h.o (by omega)).sC, y_sub (by omega), show v + 4 * (qv + 1) - v = 4 * (qv + 1) by omega]
  · rw [y_gi, if_neg (by omega)]
    exact w.c p k x1 x2
theorem w_endLG {qv v0 : Nat} {x1 : Int32} (hq : qv ≤ 3) : ∀ (j k1 k2 i v : Nat) (D R : zx_D), i + j = 4 → j < k1 → j < k2 → v0 ≤ v → zWg v D R → v + j < 2 ^ 20 → (v0 ≤ 640 → ∀ k, k < 6 → zg_i D 22 k = z_end qv x1 k) → ∃ D' R', g_Row_appendAll_18_22_3 0 6 k1 (nI i) D = g_Row_appendAll_18_22_3 0 6 (k1 - j) 4 D' ∧ g_R_writeNumber_3 (nI qv).toInt64 4 k2 (nI i) R = some R' ∧ zWg (v + j) D' R' ∧ zWq D D' R R'
  | 0, k1 + 1, k2 + 1, i, v, D, R, hi, _, _, _, h, _, _ => by
    have hi4 : i = 4 := by omega
    subst hi4
    have l : (4 : Int32) ≤ nI 4 := by decide
    exact ⟨D, R, rfl, by rw [g_R_writeNumber_3, if_pos l], h, zWq_rfl⟩
  | j + 1, k1 + 1, k2 + 1, i, v, D, R, hi, h1, h2, h0, h, hv, he => by
    have l : ¬ (0 : Int32) + 6 ≤ nI i := fun q => by have := (y_le (a := 6) (by omega) (by omega)).mp q; omega
    have l2 : ¬ (4 : Int32) ≤ nI i := fun q => by have := (y_le (a := 4) (by omega) (by omega)).mp q; omega
    have z1 : zk_in (nI i) 6 = true := y_in (by omega) (by omega)
    have z2 : zn (nI i) = i := y_zn (by omega)
    have ef : z_end qv x1 i = if i = 0 then nI qv else 0 := by
      unfold z_end
      rw [if_neg (show ¬ i = 5 by omega)]
    have hB : y_B (if i = 0 then nI qv else 0) := by
      split
      · exact ⟨qv, by omega, rfl⟩
      · exact ⟨0, by omega, rfl⟩
    obtain ⟨D1, R1, t1, t2, t3, t4⟩ := w_g2 (b := zg_i D 22 i) (b' := if i = 0 then nI qv else 0) h (fun q => ⟨(he (by omega) i (by omega)).trans ef, hB⟩) (by omega)
    obtain ⟨D', R', u1, u2, u3, u4⟩ := w_endLG (v0 := v0) (x1 := x1) hq j k1 k2 (i + 1) (v + 1) D1 R1 (by omega) (by omega) (by omega) (by omega) t3 (by omega) (fun q k hk => by rw [t4.c 22 k (by omega) (by omega)]; exact he q k hk)
    refine ⟨D', R', ?_, ?_, by rwa [show v + 1 + j = v + (j + 1) by omega] at u3, t4.trans u4⟩
    · rw [show k1 + 1 - (j + 1) = k1 - j by omega, ← u1, g_Row_appendAll_18_22_3, if_neg l, if_pos z1, z2, t1, o_sb, y_1]
    · rw [g_R_writeNumber_3, if_neg l2, y_ql hq (show i < 4 by omega), t2, o_sb, y_1, u2]
theorem kp_end {v qv : Nat} {x1 : Int32} {D R : zx_D} (h : zWg v D R) (hv : v + 20 < 2 ^ 20) (hq : qv ≤ 3) (hx : y_B x1) (ix : v ≤ 640 → zg_i D 17 9 = nI (4 * (qv + 1))) (so : zg_i D 17 5 = x1) (en : ∀ i, 1 ≤ i → i ≤ 4 → zg_i D 22 i = 0) :
    ∃ D' R', g_Pkg_writeEnd D = some D' ∧ r_pk3 x1 (nI qv) R = some R' ∧ zWg (v + 12) D' R' ∧ zKf D D' R R' := by
  obtain ⟨y, hy⟩ : ∃ y, y = zg_i D 17 9 / 4 - 1 := ⟨_, rfl⟩
  have hyq : v ≤ 640 → y = nI qv := fun q => by
    rw [hy, ix q, show (4 : Int32) = nI 4 from rfl, y_div (by omega) (by omega), show 4 * (qv + 1) / 4 = qv + 1 by omega]
    exact y_sub (a := qv + 1) (b := 1) (by omega)
  obtain ⟨D0, hD0⟩ : ∃ D0, D0 = zp_i (zp_i D 22 0 y) 22 5 x1 := ⟨_, rfl⟩
  have h0 : zWg v D0 R := by
    subst hD0
    exact h.q rfl rfl (fun _ => rfl) rfl (fun _ => rfl)
  have he : v ≤ 640 → ∀ k, k < 6 → zg_i D0 22 k = z_end qv x1 k := by
    intro q k hk
    subst hD0
    unfold z_end
    rw [y_gi, y_gi]
    by_cases hk5 : k = 5
    · rw [if_pos ⟨rfl, hk5⟩, if_neg (by omega), if_pos hk5]
    · rw [if_neg (fun q => hk5 q.2)]
      by_cases hk0 : k = 0
      · rw [if_pos ⟨rfl, hk0⟩, if_pos hk0]
        exact hyq q
      · rw [if_neg (fun q => hk0 q.2), if_neg hk0, if_neg hk5]
        exact en k (by omega) (by omega)
  have w0 : zKf D D0 R R := by
    subst hD0
    exact ⟨fun p k a => by rw [y_gi, if_neg (by omega), y_gi, if_neg (by omega)], fun k a b => by rw [y_gi, if_neg (by omega), y_gi, if_neg (by omega)], fun _ => rfl, fun _ _ => rfl, fun _ _ _ => rfl, fun _ _ => rfl⟩
  have C0 : g_Pkg_writeEnd D = (g_P_sumFour_22 0 6 D0).bind fun q1 =>
      (g_Row_appendLowFirst_18 q1 4 D0).bind fun q2 =>
      (g_Row_appendAll_18_22 0 6 q2).bind fun q3 =>
      (g_Row_append_18 89 q3).bind fun q4 =>
      (g_Row_append_18 90 q4).bind fun q5 =>
      some q5 := by
    have z0 : zn 0 = 0 := rfl
    have z5 : zn 5 = 5 := rfl
    rw [g_Pkg_writeEnd, so, ← hy, z0, z5, ← hD0]
  rw [C0]
  have s1 : g_P_sumFour_22 0 6 D0 = some (y_s4 (D0.1 22) 0 6) := by
    rw [show g_P_sumFour_22 0 6 D0 = g_P_sumFour_22 (nI 0) (nI 6) D0 from rfl, y_sum4_22 D0 (by omega) (by omega)]
  have s2 : g_R_pack_176 x1 (nI qv) R 10000 4294967295 0 = some (y_fo 3988292384 (z_end qv x1) 6 0 4294967295) := r_176 R hq hx 6 10000 0 _ (by omega) (by omega) y_P_F
  have s3 : y_fo 3988292384 (z_end qv x1) 6 0 4294967295 ^^^ 4294967295 = y_s4 (z_end qv x1) 0 6 := rfl
  obtain ⟨D1, R1, u1, u2, u3, u4⟩ := w_lowG (y_s4 (D0.1 22) 0 6) (y_s4 (z_end qv x1) 0 6) 4 (by omega) h0 (fun q => y_s4_congr (f := D0.1 22) (g := z_end qv x1) (fun i _ hi => he q i (by omega))) (by omega)
  have u1 : g_Row_appendLowFirst_18 (y_s4 (D0.1 22) 0 6) 4 D0 = some D1 := u1
  have u2 : g_R_writeNumber (y_s4 (z_end qv x1) 0 6) 4 R = some R1 := u2
  have he1 : v ≤ 640 → ∀ k, k < 6 → zg_i D1 22 k = z_end qv x1 k := fun q k hk => by rw [u4.c 22 k (by omega) (by omega)]; exact he q k hk
  obtain ⟨D2, R2, a1, a2, a3, a4⟩ := w_endLG (v0 := v) (x1 := x1) hq 4 10000 10000 0 (v + 4) D1 R1 (by omega) (by omega) (by omega) (by omega) u3 (by omega) he1
  have a1 : g_Row_appendAll_18_22_3 0 6 10000 0 D1 = g_Row_appendAll_18_22_3 0 6 9996 4 D2 := a1
  have a2 : g_R_writeNumber_3 (nI qv).toInt64 4 10000 0 R1 = some R2 := a2
  have he2 : v ≤ 640 → ∀ k, k < 6 → zg_i D2 22 k = z_end qv x1 k := fun q k hk => by rw [a4.c 22 k (by omega) (by omega)]; exact he1 q k hk
  obtain ⟨D3, R3, b1, b2, b3, b4⟩ := w_g2 (b := zg_i D2 22 4) (b' := 0) a3 (fun q => ⟨(he2 (by omega) 4 (by omega)).trans rfl, 0, by omega, rfl⟩) (by omega)
  obtain ⟨D4, R4, c1, c2, c3, c4⟩ := w_g2 (b := zg_i D3 22 5) (b' := x1) b3 (fun q => ⟨by
    rw [b4.c 22 5 (by omega) (by omega)]
    exact (he2 (by omega) 5 (by omega)).trans rfl, hx⟩) (by omega)
  obtain ⟨D5, R5, d1, d2, d3, d4⟩ := w_g2 (b := 89) (b' := 89) c3 (fun _ => ⟨rfl, 89, by omega, rfl⟩) (by omega)
  obtain ⟨D6, R6, f1, f2, f3, f4⟩ := w_g2 (b := 90) (b' := 90) d3 (fun _ => ⟨rfl, 90, by omega, rfl⟩) (by omega)
  have l4 : ¬ (0 : Int32) + 6 ≤ 4 := by decide
  have k4 : zk_in 4 6 = true := by decide
  have l5 : ¬ (0 : Int32) + 6 ≤ 5 := by decide
  have k5 : zk_in 5 6 = true := by decide
  have l6 : (0 : Int32) + 6 ≤ 5 + 1 := by decide
  have z4 : zn 4 = 4 := rfl
  have z5 : zn 5 = 5 := rfl
  have E4 : g_Row_appendAll_18_22_3 0 6 9996 4 D2 = g_Row_appendAll_18_22_3 0 6 9995 5 D3 := by
    rw [g_Row_appendAll_18_22_3, if_neg l4, if_pos k4, z4, b1, o_sb]
    rfl
  have E5 : g_Row_appendAll_18_22_3 0 6 9995 5 D3 = some D4 := by
    rw [g_Row_appendAll_18_22_3, if_neg l5, if_pos k5, z5, c1, o_sb, g_Row_appendAll_18_22_3, if_pos l6]
  have A : g_Row_appendAll_18_22 0 6 D1 = some D4 := by rw [g_Row_appendAll_18_22, a1, E4, E5, o_sb]
  have A2 : g_R_writeNumber (nI qv).toInt64 4 R1 = some R2 := by rw [g_R_writeNumber, a2, o_sb]
  have W := (((u4.trans a4).trans b4).trans c4).trans (d4.trans f4)
  refine ⟨D6, R6, ?_, ?_, f3, w0.trans W.k⟩
  · rw [s1, o_sb, u1, o_sb, A, o_sb, d1, o_sb, f1, o_sb]
  · rw [r_pk3, s2, o_sb, s3, u2, o_sb, A2, o_sb, b2, o_sb, c2, o_sb, d2, o_sb, f2]
theorem r_293 {w : Nat} (hw : w ≤ 640) : ∀ (j k i : Nat) (E : zx_D), i + j = w → j < k → zg_i E 0 7 = nI w → ∃ E', g_R_pack_293 k (nI i) E = some E' ∧ (∀ q, i ≤ q → q < w → zg_i E' 2 q = zg_i E 4 q) ∧ (∀ q, q < i → zg_i E' 2 q = zg_i E 2 q) ∧ (∀ p q, p ≠ 2 → zg_i E' p q = zg_i E p q) ∧ (∀ p q, zg_l E' p q = zg_l E p q)
  | 0, k + 1, i, E, hi, _, h7 => by
    refine ⟨E, ?_, fun q h1 h2 => by omega, fun _ _ => rfl, fun _ _ _ => rfl, fun _ _ => rfl⟩
    rw [g_R_pack_293, h7, if_pos ((y_le (by omega) (by omega)).mpr (by omega))]
  | j + 1, k + 1, i, E, hi, hk, h7 => by
    obtain ⟨E', a1, a2, a3, a4, a5⟩ := r_293 hw j k (i + 1) (zp_i E 2 i (zg_i E 4 i)) (by omega) (by omega) h7
    refine ⟨E', ?_, fun q h1 h2 => ?_, fun q hq => ?_, fun p q hp => ?_, a5⟩
    · rw [g_R_pack_293, h7, if_neg (fun q => by have := (y_le (by omega) (by omega)).mp q; omega), if_pos (y_in (by omega) (by omega)), if_pos (y_in (by omega) (by omega)), y_zn (by omega), y_1]
      exact a1
    · by_cases t : q = i
      · rw [a3 q (by omega), y_gi, if_pos ⟨rfl, t⟩, t]
      · rw [a2 q (by omega) h2, y_gi, if_neg (by omega)]
    · rw [a3 q (by omega), y_gi, if_neg (by omega)]
    · rw [a4 p q hp, y_gi, if_neg (fun t => hp t.1)]
theorem k_become {n m w : Nat} {D R D6 R6 : zx_D} (h : zI n m D R) (K : zKf D D6 R R6) (W : zWo w D6 R6) : ∃ D' R', g_Row_become_3_18 D6 = some D' ∧ g_R_pack_293 10000 0 (zp_i R6 0 3 (zg_i R6 0 7)) = some R' ∧ zg_i D' 3 1 = nI w ∧ zg_i R' 0 3 = nI w ∧ zI n w D' R' := by
  have hw := W.hw
  obtain ⟨R', a1, a2, a3, a4, a5⟩ := r_293 hw w 10000 0 (zp_i R6 0 3 (nI w)) (by omega) (by omega) W.sR
  have a1 : g_R_pack_293 10000 0 (zp_i R6 0 3 (nI w)) = some R' := a1
  have e1 : (if 640 < zg_i D6 18 1 then 640 else zg_i D6 18 1) = nI w := by
    rw [W.sC]
    exact if_neg (show ¬ (640 : Int32) < nI w from fun q => by have := (y_lt (a := 640) (by omega) (by omega)).mp q; omega)
  have e2 : ¬ nI w < 0 := fun q => by have := (y_lt (b := 0) (by omega) (by omega)).mp q; omega
  have e3 : zn (nI w) = w := y_zn (by omega)
  have e4 : zn 0 = 0 := rfl
  have hb : g_Row_become_3_18 D6 = some (zp_a (zp_i D6 3 1 (nI w)) 4 (va_cpy ((zp_i D6 3 1 (nI w)).1 19) ((zp_i D6 3 1 (nI w)).1 4) 0 0 w)) := by
    rw [g_Row_become_3_18]
    simp only [e1, e3, e4]
    rw [if_pos ⟨by decide, by decide, e2, by omega, by omega⟩]
  have hB : ∀ i, i < w → zg_i (zp_a (zp_i D6 3 1 (nI w)) 4 (va_cpy ((zp_i D6 3 1 (nI w)).1 19) ((zp_i D6 3 1 (nI w)).1 4) 0 0 w)) 4 i = zg_i R' 2 i ∧ y_B (zg_i R' 2 i) := by
    intro i hi
    have e5 : zg_i (zp_i R6 0 3 (nI w)) 4 i = zg_i R6 4 i := rfl
    rw [y_ga, if_pos rfl, a2 i (by omega) hi, e5]
    have e : va_cpy ((zp_i D6 3 1 (nI w)).1 19) ((zp_i D6 3 1 (nI w)).1 4) 0 0 w i = zg_i D6 19 i := by
      unfold va_cpy
      rw [if_pos ⟨by omega, by omega⟩, show 0 + (i - 0) = i by omega]
      rfl
    rw [e]
    exact W.bs i hi
  have c0 : ∀ p k, p ≠ 3 → p ≠ 4 → zg_i (zp_a (zp_i D6 3 1 (nI w)) 4 (va_cpy ((zp_i D6 3 1 (nI w)).1 19) ((zp_i D6 3 1 (nI w)).1 4) 0 0 w)) p k = zg_i D6 p k := fun p k h1 h2 => by
    rw [y_ga, if_neg h2, y_gi, if_neg (fun t => h1 t.1)]
  have q0 : ∀ k, k ≠ 3 → zg_i R' 0 k = zg_i R6 0 k := fun k hk => by rw [a4 0 k (by omega), y_gi, if_neg (by omega)]
  have qp : ∀ p k, p ≠ 0 → p ≠ 2 → zg_i R' p k = zg_i R6 p k := fun p k h1 h2 => by rw [a4 p k h2, y_gi, if_neg (fun t => h1 t.1)]
  have r03 : zg_i R' 0 3 = nI w := (a4 0 3 (by omega)).trans rfl
  refine ⟨_, R', hb, by rw [W.sR]; exact a1, rfl, r03, h.hn, hw, ?_, ?_, fun i hi => ?_, rfl, r03, hB, ?_, ?_, ?_, ?_, ?_, fun i h1 h2 => ?_, fun i h1 h2 => ?_⟩
  · exact (c0 1 1 (by omega) (by omega)).trans ((K.c 1 1 (by omega)).trans h.pC)
  · exact (q0 1 (by omega)).trans ((K.r 1 (by omega)).trans h.pR)
  · rw [c0 2 i (by omega) (by omega), K.c 2 i (by omega), qp 1 i (by omega) (by omega), K.rp 1 i (by omega)]
    exact h.pB i hi
  · rw [c0 12 5 (by omega) (by omega), K.c 12 5 (by omega), q0 30 (by omega), K.r 30 (by omega)]
    exact h.wh
  · rw [c0 5 9 (by omega) (by omega), K.c 5 9 (by omega), q0 37 (by omega), K.r 37 (by omega)]
    exact h.wa
  · rw [a5 0 39]
    exact (K.cl 10).trans (h.kr.trans (K.rl 39 (by omega)).symm)
  · rw [a5 0 40]
    exact (K.cl 11).trans (h.kc.trans (K.rl 40 (by omega)).symm)
  · rw [c0 5 8 (by omega) (by omega), K.c 5 8 (by omega), qp 9 0 (by omega) (by omega), K.rp 9 0 (by omega)]
    exact h.c0
  · rw [c0 14 i (by omega) (by omega), K.c 14 i (by omega), qp 9 i (by omega) (by omega), K.rp 9 i (by omega)]
    exact h.cs i h1 h2
  · rw [c0 22 i (by omega) (by omega), K.c22 i h1 h2]
    exact h.en i h1 h2
theorem zI_k {n m : Nat} {D R D' R' : zx_D} (h : zI n m D R) (K : zKf D D' R R') : zI n m D' R' := by
  refine ⟨h.hn, h.hm, (K.c 1 1 (by omega)).trans h.pC, (K.r 1 (by omega)).trans h.pR, fun i hi => ?_, (K.c 3 1 (by omega)).trans h.kC, (K.r 3 (by omega)).trans h.kR, fun i hi => ?_, ?_, ?_, ?_, ?_, ?_, fun i h1 h2 => ?_, fun i h1 h2 => (K.c22 i h1 h2).trans (h.en i h1 h2)⟩
  · rw [K.c 2 i (by omega), K.rp 1 i (by omega)]
    exact h.pB i hi
  · rw [K.c 4 i (by omega), K.rp 2 i (by omega)]
    exact h.kB i hi
  · rw [K.c 12 5 (by omega), K.r 30 (by omega)]
    exact h.wh
  · rw [K.c 5 9 (by omega), K.r 37 (by omega)]
    exact h.wa
  · rw [K.cl 10, K.rl 39 (by omega)]
    exact h.kr
  · rw [K.cl 11, K.rl 40 (by omega)]
    exact h.kc
  · rw [K.c 5 8 (by omega), K.rp 9 0 (by omega)]
    exact h.c0
  · rw [K.c 14 i (by omega), K.rp 9 i (by omega)]
    exact h.cs i h1 h2
