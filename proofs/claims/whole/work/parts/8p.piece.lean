abbrev zHp (D D' R R' : zx_D) : Prop := Nonempty ((∀ p k, p ≠ 6 → p ≠ 7 → p ≠ 18 → p ≠ 19 → p ≠ 20 → p ≠ 21 → ¬ (p = 17 ∧ 10 ≤ k) → zg_i D' p k = zg_i D p k) ∧ (∀ p k, p ≠ 7 → p ≠ 8 → p ≠ 20 → zg_l D' p k = zg_l D p k) ∧ (∀ k, k ≠ 7 → k ≠ 12 → k < 25 ∨ 27 < k → zg_i R' 0 k = zg_i R 0 k) ∧ (∀ p k, p ≠ 0 → p ≠ 4 → p ≠ 5 → p ≠ 6 → zg_i R' p k = zg_i R p k) ∧ (∀ k, k < 13 ∨ 17 < k → zg_l R' 0 k = zg_l R 0 k))
theorem zHp.c {D D' R R' : zx_D} (h : zHp D D' R R') : ∀ p k, p ≠ 6 → p ≠ 7 → p ≠ 18 → p ≠ 19 → p ≠ 20 → p ≠ 21 → ¬ (p = 17 ∧ 10 ≤ k) → zg_i D' p k = zg_i D p k := h.elim fun q => q.1
theorem zHp.cl {D D' R R' : zx_D} (h : zHp D D' R R') : ∀ p k, p ≠ 7 → p ≠ 8 → p ≠ 20 → zg_l D' p k = zg_l D p k := h.elim fun q => q.2.1
theorem zHp.r {D D' R R' : zx_D} (h : zHp D D' R R') : ∀ k, k ≠ 7 → k ≠ 12 → k < 25 ∨ 27 < k → zg_i R' 0 k = zg_i R 0 k := h.elim fun q => q.2.2.1
theorem zHp.rp {D D' R R' : zx_D} (h : zHp D D' R R') : ∀ p k, p ≠ 0 → p ≠ 4 → p ≠ 5 → p ≠ 6 → zg_i R' p k = zg_i R p k := h.elim fun q => q.2.2.2.1
theorem zHp.rl {D D' R R' : zx_D} (h : zHp D D' R R') : ∀ k, k < 13 ∨ 17 < k → zg_l R' 0 k = zg_l R 0 k := h.elim fun q => q.2.2.2.2
theorem zHp_rfl {D R : zx_D} : zHp D D R R := ⟨fun _ _ _ _ _ _ _ _ _ => Eq.refl _, fun _ _ _ _ _ => Eq.refl _, fun _ _ _ _ => Eq.refl _, fun _ _ _ _ _ _ => Eq.refl _, fun _ _ => Eq.refl _⟩
theorem zHp.trans {D D' D'' R R' R'' : zx_D} (h1 : zHp D D' R R') (h2 : zHp D' D'' R' R'') : zHp D D'' R R'' :=
  ⟨fun p k a1 a2 a3 a4 a5 a6 a7 => (h2.c p k a1 a2 a3 a4 a5 a6 a7).trans (h1.c p k a1 a2 a3 a4 a5 a6 a7), fun p k a1 a2 a3 => (h2.cl p k a1 a2 a3).trans (h1.cl p k a1 a2 a3), fun k a1 a2 a3 => (h2.r k a1 a2 a3).trans (h1.r k a1 a2 a3), fun p k a1 a2 a3 a4 => (h2.rp p k a1 a2 a3 a4).trans (h1.rp p k a1 a2 a3 a4), fun k a1 => (h2.rl k a1).trans (h1.rl k a1)⟩
theorem zHu.p {D D' R R' : zx_D} (h : zHu D D' R R') : zHp D D' R R' := ⟨fun p k a1 a2 _ _ a5 a6 a7 => h.c p k a1 a2 a5 a6 (by omega), h.cl, fun k a1 a2 a3 => h.r k a2 (by omega) (by omega) (by omega), fun p k a1 _ a3 a4 => h.rp p k a1 a3 a4, h.rl⟩
theorem zWq.p {D D' R R' : zx_D} (h : zWq D D' R R') : zHp D D' R R' := ⟨fun p k _ _ a3 a4 _ _ _ => h.c p k a3 a4, fun p k _ _ _ => h.cl p k, fun k a1 _ _ => h.r k a1, fun p k a1 a2 _ _ => h.rp p k a1 a2, fun k _ => h.rl 0 k⟩
theorem two_b : ∀ u : Fin 400, zo_ushr (nI u.1) 8 = nI (u.1 / 256) ∧ zo_shr (nI u.1) 8 = nI (u.1 / 256) := by decide +kernel
theorem w_two {v u : Nat} {D R : zx_D} (hu : u < 400) (h : zWg v D R) (hv : v + 2 < 2 ^ 20) : ∃ D' R1 R2, g_Pkg_appendTwo (nI u) D = some D' ∧ g_R_write (zo_shr (nI u) 8) R = some R1 ∧ g_R_write (nI u &&& 255) R1 = some R2 ∧ zWg (v + 2) D' R2 ∧ zWq D D' R R2 := by
  have e := two_b ⟨u, hu⟩
  have e1 : zo_ushr (nI u) 8 = nI (u / 256) := e.1
  have e2 : zo_shr (nI u) 8 = nI (u / 256) := e.2
  obtain ⟨D1, R1, a1, a2, a3, a4⟩ := w_g2 (b := nI (u / 256)) (b' := nI (u / 256)) h (fun _ => ⟨rfl, u / 256, by omega, rfl⟩) (by omega)
  obtain ⟨D2, R2, b1, b2, b3, b4⟩ := w_g2 (b := nI u &&& 255) (b' := nI u &&& 255) a3 (fun _ => ⟨rfl, y_B_of⟩) (by omega)
  exact ⟨D2, R1, R2, by rw [g_Pkg_appendTwo, e1, a1, o_sb, b1, o_sb], by rw [e2]; exact a2, b2, b3, a4.trans b4⟩
theorem w_allP (x1 x2 x3 : Int32) {n X len : Nat} (hn : n ≤ 400) (hX : X + len ≤ n) : ∀ (j k1 k2 i v : Nat) (D R : zx_D), i + j = len → j < k1 → j < k2 → zWg v D R → v + j + 1 < 2 ^ 20 → (∀ q, q < n → zg_i D 2 q = zg_i R 1 q ∧ y_B (zg_i R 1 q)) → ∃ D' R', g_Row_appendAll_18_2_3 (nI X) (nI len) k1 (nI (X + i)) D = some D' ∧ g_R_writeChunks_256 x1 x2 x3 (nI X) (nI len) k2 (nI i) R = some R' ∧ zWg (v + j) D' R' ∧ zWq D D' R R'
  | 0, k1 + 1, k2 + 1, i, v, D, R, hi, _, _, h, hv, hB => by
    refine ⟨D, R, ?_, ?_, h, zWq_rfl⟩
    · rw [g_Row_appendAll_18_2_3, y_add, if_pos ((y_le (by omega) (by omega)).mpr (by omega))]
    · rw [g_R_writeChunks_256, if_pos ((y_le (by omega) (by omega)).mpr (by omega))]
  | j + 1, k1 + 1, k2 + 1, i, v, D, R, hi, h1, h2, h, hv, hB => by
    obtain ⟨D1, R1, a1, a2, a3, a4⟩ := w_g2 (b := zg_i D 2 (X + i)) (b' := zg_i R 1 (X + i)) h (fun _ => hB (X + i) (by omega)) (by omega)
    obtain ⟨D2, R2, b1, b2, b3, b4⟩ := w_allP x1 x2 x3 hn hX j k1 k2 (i + 1) (v + 1) D1 R1 (by omega) (by omega) (by omega) a3 (by omega) (fun q hq => by
      rw [a4.c 2 q (by omega) (by omega), a4.rp 1 q (by omega) (by omega)]
      exact hB q hq)
    refine ⟨D2, R2, ?_, ?_, by rw [show v + (j + 1) = v + 1 + j by omega]; exact b3, a4.trans b4⟩
    · rw [g_Row_appendAll_18_2_3, y_add, if_neg (fun q => by have := (y_le (by omega) (by omega)).mp q; omega), if_pos (y_in (by omega) (by omega)), y_zn (by omega), a1, o_sb, y_1]
      exact b1
    · rw [g_R_writeChunks_256, if_neg (fun q => by have := (y_le (by omega) (by omega)).mp q; omega), y_add, if_pos (y_in (by omega) (by omega)), y_zn (by omega), a2, o_sb, y_1]
      exact b2
theorem w_allS (x1 x2 x4 : Int32) {sz : Nat} (hs : sz ≤ 400) : ∀ (j k1 k2 i v : Nat) (D R : zx_D), i + j = sz → j < k1 → j < k2 → zWg v D R → v + j + 1 < 2 ^ 20 → zg_i R 0 25 = nI sz → (∀ q, q < sz → zg_i D 21 q = zg_i R 6 q ∧ y_B (zg_i R 6 q)) → ∃ D' R', g_Row_appendAll_18_21_3 0 (nI sz) k1 (nI i) D = some D' ∧ g_R_writeChunks_185 x1 x2 x4 k2 (nI i) R = some R' ∧ zWg (v + j) D' R' ∧ zWq D D' R R'
  | 0, k1 + 1, k2 + 1, i, v, D, R, hi, _, _, h, hv, h25, hB => by
    refine ⟨D, R, ?_, ?_, h, zWq_rfl⟩
    · rw [g_Row_appendAll_18_21_3, show (0 : Int32) + nI sz = nI sz from (y_add 0 sz).trans (by rw [Nat.zero_add]), if_pos ((y_le (by omega) (by omega)).mpr (by omega))]
    · rw [g_R_writeChunks_185, h25, if_pos ((y_le (by omega) (by omega)).mpr (by omega))]
  | j + 1, k1 + 1, k2 + 1, i, v, D, R, hi, h1, h2, h, hv, h25, hB => by
    obtain ⟨D1, R1, a1, a2, a3, a4⟩ := w_g2 (b := zg_i D 21 i) (b' := zg_i R 6 i) h (fun _ => hB i (by omega)) (by omega)
    obtain ⟨D2, R2, b1, b2, b3, b4⟩ := w_allS x1 x2 x4 hs j k1 k2 (i + 1) (v + 1) D1 R1 (by omega) (by omega) (by omega) a3 (by omega) ((a4.r 25 (by omega)).trans h25) (fun q hq => by
      rw [a4.c 21 q (by omega) (by omega), a4.rp 6 q (by omega) (by omega)]
      exact hB q hq)
    refine ⟨D2, R2, ?_, ?_, by rw [show v + (j + 1) = v + 1 + j by omega]; exact b3, a4.trans b4⟩
    · rw [g_Row_appendAll_18_21_3, show (0 : Int32) + nI sz = nI sz from (y_add 0 sz).trans (by rw [Nat.zero_add]), if_neg (fun q => by have := (y_le (by omega) (by omega)).mp q; omega), if_pos (y_in (by omega) (by omega)), y_zn (by omega), a1, o_sb, y_1]
      exact b1
    · rw [g_R_writeChunks_185, h25, if_neg (fun q => by have := (y_le (by omega) (by omega)).mp q; omega), if_pos (y_in (by omega) (by omega)), y_zn (by omega), a2, o_sb, y_1]
      exact b2
abbrev zPc (n pr lc lp pb v X bf : Nat) (D R : zx_D) : Prop := Nonempty ((n ≤ 400) ∧ (∀ i, i < n → zg_i D 2 i = zg_i R 1 i ∧ y_B (zg_i R 1 i)) ∧ (zWg v D R) ∧ (zg_i D 1 1 = nI n) ∧ (zg_i R 0 1 = nI n) ∧ (lc + lp ≤ 3) ∧ (pb ≤ 4) ∧ (zo_rem (nI pr) 9 = nI lc) ∧ (zo_rem (nI pr / 9) 5 = nI lp) ∧ (nI pr / 45 = nI pb) ∧ (pr < 225) ∧ (zg_i D 17 6 = nI pr) ∧ (bf = 0 ∨ (1 ≤ X ∧ (bf = 1 ∨ bf = 2))) ∧ (zg_i D 17 10 = if X = 0 then 1 else 0) ∧ (zg_i D 17 11 = if bf = 0 then 1 else 0) ∧ (zg_i D 17 12 = if bf = 1 then 0 else 1) ∧ (zg_i R 0 9 = nI lc) ∧ (zg_i R 0 10 = nI lp) ∧ (zg_i R 0 11 = nI pb) ∧ (bf = 1 → zMo lc lp pb X D R))
theorem zPc.hn {n pr lc lp pb v X bf : Nat} {D R : zx_D} (h : zPc n pr lc lp pb v X bf D R) : n ≤ 400 := h.elim fun q => q.1
theorem zPc.pB {n pr lc lp pb v X bf : Nat} {D R : zx_D} (h : zPc n pr lc lp pb v X bf D R) : ∀ i, i < n → zg_i D 2 i = zg_i R 1 i ∧ y_B (zg_i R 1 i) := h.elim fun q => q.2.1
theorem zPc.W {n pr lc lp pb v X bf : Nat} {D R : zx_D} (h : zPc n pr lc lp pb v X bf D R) : zWg v D R := h.elim fun q => q.2.2.1
theorem zPc.nC {n pr lc lp pb v X bf : Nat} {D R : zx_D} (h : zPc n pr lc lp pb v X bf D R) : zg_i D 1 1 = nI n := h.elim fun q => q.2.2.2.1
theorem zPc.nR {n pr lc lp pb v X bf : Nat} {D R : zx_D} (h : zPc n pr lc lp pb v X bf D R) : zg_i R 0 1 = nI n := h.elim fun q => q.2.2.2.2.1
theorem zPc.hc {n pr lc lp pb v X bf : Nat} {D R : zx_D} (h : zPc n pr lc lp pb v X bf D R) : lc + lp ≤ 3 := h.elim fun q => q.2.2.2.2.2.1
theorem zPc.hp {n pr lc lp pb v X bf : Nat} {D R : zx_D} (h : zPc n pr lc lp pb v X bf D R) : pb ≤ 4 := h.elim fun q => q.2.2.2.2.2.2.1
theorem zPc.e1 {n pr lc lp pb v X bf : Nat} {D R : zx_D} (h : zPc n pr lc lp pb v X bf D R) : zo_rem (nI pr) 9 = nI lc := h.elim fun q => q.2.2.2.2.2.2.2.1
theorem zPc.e2 {n pr lc lp pb v X bf : Nat} {D R : zx_D} (h : zPc n pr lc lp pb v X bf D R) : zo_rem (nI pr / 9) 5 = nI lp := h.elim fun q => q.2.2.2.2.2.2.2.2.1
theorem zPc.e3 {n pr lc lp pb v X bf : Nat} {D R : zx_D} (h : zPc n pr lc lp pb v X bf D R) : nI pr / 45 = nI pb := h.elim fun q => q.2.2.2.2.2.2.2.2.2.1
theorem zPc.hpr {n pr lc lp pb v X bf : Nat} {D R : zx_D} (h : zPc n pr lc lp pb v X bf D R) : pr < 225 := h.elim fun q => q.2.2.2.2.2.2.2.2.2.2.1
theorem zPc.c6 {n pr lc lp pb v X bf : Nat} {D R : zx_D} (h : zPc n pr lc lp pb v X bf D R) : zg_i D 17 6 = nI pr := h.elim fun q => q.2.2.2.2.2.2.2.2.2.2.2.1
theorem zPc.hb {n pr lc lp pb v X bf : Nat} {D R : zx_D} (h : zPc n pr lc lp pb v X bf D R) : bf = 0 ∨ (1 ≤ X ∧ (bf = 1 ∨ bf = 2)) := h.elim fun q => q.2.2.2.2.2.2.2.2.2.2.2.2.1
theorem zPc.c10 {n pr lc lp pb v X bf : Nat} {D R : zx_D} (h : zPc n pr lc lp pb v X bf D R) : zg_i D 17 10 = if X = 0 then 1 else 0 := h.elim fun q => q.2.2.2.2.2.2.2.2.2.2.2.2.2.1
theorem zPc.c11 {n pr lc lp pb v X bf : Nat} {D R : zx_D} (h : zPc n pr lc lp pb v X bf D R) : zg_i D 17 11 = if bf = 0 then 1 else 0 := h.elim fun q => q.2.2.2.2.2.2.2.2.2.2.2.2.2.2.1
theorem zPc.c12 {n pr lc lp pb v X bf : Nat} {D R : zx_D} (h : zPc n pr lc lp pb v X bf D R) : zg_i D 17 12 = if bf = 1 then 0 else 1 := h.elim fun q => q.2.2.2.2.2.2.2.2.2.2.2.2.2.2.2.1
theorem zPc.r9 {n pr lc lp pb v X bf : Nat} {D R : zx_D} (h : zPc n pr lc lp pb v X bf D R) : zg_i R 0 9 = nI lc := h.elim fun q => q.2.2.2.2.2.2.2.2.2.2.2.2.2.2.2.2.1
theorem zPc.r10 {n pr lc lp pb v X bf : Nat} {D R : zx_D} (h : zPc n pr lc lp pb v X bf D R) : zg_i R 0 10 = nI lp := h.elim fun q => q.2.2.2.2.2.2.2.2.2.2.2.2.2.2.2.2.2.1
theorem zPc.r11 {n pr lc lp pb v X bf : Nat} {D R : zx_D} (h : zPc n pr lc lp pb v X bf D R) : zg_i R 0 11 = nI pb := h.elim fun q => q.2.2.2.2.2.2.2.2.2.2.2.2.2.2.2.2.2.2.1
theorem zPc.md {n pr lc lp pb v X bf : Nat} {D R : zx_D} (h : zPc n pr lc lp pb v X bf D R) : bf = 1 → zMo lc lp pb X D R := h.elim fun q => q.2.2.2.2.2.2.2.2.2.2.2.2.2.2.2.2.2.2.2
def c_piece (ln : Nat) (x1 x2 : Int32) (D : zx_D) : Option (Nat × zx_D) :=
  (g_Pkg_encode ln x1 x2 D).bind fun q1 =>
  if q1.1 = 0 then
    (g_Pkg_writePlain x1 (x2 - x1) q1.2.2).bind fun q2 =>
    some (q1.2.1, zp_i q2 17 10 0)
  else
    (g_Pkg_writeCoded (x2 - x1) q1.2.2).bind fun q3 =>
    some (q1.2.1, zp_i q3 17 10 0)
theorem s_piece {n pr lc lp pb v X bf cs : Nat} {D R : zx_D} (ln : Nat) (h : zPc n pr lc lp pb v X bf D R) (hX : X < n) (hcs : 1 ≤ cs) (hcs2 : cs ≤ 400) (hv : v + 500 < 2 ^ 20) :
    ∃ ln' D' R' v' bf', c_piece ln (nI X) (if nI n < nI (X + cs) then nI n else nI (X + cs)) D = some (ln', D') ∧ (∀ k, g_R_writeChunks_31 (nI pr) (nI cs) (k + 1) (nI bf) (nI X) R = g_R_writeChunks_31 (nI pr) (nI cs) k (nI bf') (nI (X + cs)) R') ∧ zPc n pr lc lp pb v' (X + cs) bf' D' R' ∧ v ≤ v' ∧ v' ≤ v + 406 ∧ zHp D D' R R' := by
  have hn := h.hn
  have hbb := h.hb
  obtain ⟨T, hT⟩ : ∃ T, T = if n < X + cs then n else X + cs := ⟨_, rfl⟩
  have hT1 : X < T ∧ T ≤ n ∧ T ≤ X + cs := by
    rw [hT]
    split <;> omega
  have eT : (if nI n < nI (X + cs) then nI n else nI (X + cs)) = nI T := by
    rw [hT]
    by_cases t : n < X + cs
    · rw [if_pos t, if_pos ((y_lt (by omega) (by omega)).mpr t)]
    · rw [if_neg t, if_neg (fun q => t ((y_lt (by omega) (by omega)).mp q))]
  have eR : ((if nI cs ≤ nI n - nI X then some (nI cs) else some (nI n - nI X)) : Option Int32) = some (nI (T - X)) := by
    rw [y_sub (by omega), hT]
    by_cases t : n < X + cs
    · rw [if_pos t, if_neg (fun q => by have := (y_le (by omega) (by omega)).mp q; omega)]
    · rw [if_neg t, if_pos ((y_le (by omega) (by omega)).mpr (by omega)), show X + cs - X = cs by omega]
  obtain ⟨R0, hR0, hm, fr, frl⟩ : ∃ R0, ((if nI bf = 1 then some R else (g_R_anew R).bind fun q2 => some q2) : Option zx_D) = some R0 ∧ ((zg_i D 17 12 = 0 ∧ zMo lc lp pb X D R0) ∨ (zg_i D 17 12 = 1 ∧ zRa lc lp pb R0)) ∧ (∀ p k, p ≠ 5 → ¬ (p = 0 ∧ k = 12) → zg_i R0 p k = zg_i R p k) ∧ (∀ k, k < 13 ∨ 16 < k → zg_l R0 0 k = zg_l R 0 k) := by
    by_cases t : bf = 1
    · refine ⟨R, by rw [t]; rfl, Or.inl ⟨by rw [h.c12, if_pos t], h.md t⟩, fun _ _ _ _ => rfl, fun _ _ => rfl⟩
    · obtain ⟨R0, a1, a2, a3, a4, a5, a6⟩ := r_anew R
      refine ⟨R0, ?_, Or.inr ⟨by rw [h.c12, if_neg t], (a5 0 9 (by omega) (by omega)).trans h.r9, (a5 0 10 (by omega) (by omega)).trans h.r10, (a5 0 11 (by omega) (by omega)).trans h.r11, a2, a3, a4⟩, a5, a6⟩
      rw [if_neg (show ¬ nI bf = 1 from fun q => t ((y_eq (b := 1) (by omega) (by omega)).mp q)), a1, o_sb]
  have w0 : zHp D D R R0 := ⟨fun _ _ _ _ _ _ _ _ _ => Eq.refl _, fun _ _ _ _ _ => Eq.refl _, fun k _ a2 _ => fr 0 k (by omega) (by omega), fun p k a1 _ a3 _ => fr p k a3 (by omega), fun k hk => frl k (by omega)⟩
  obtain ⟨ans, ln', D1, R1, a1, a2, a3, a4⟩ := s_enc (X := X) (T := T) (D := D) (R := R0) ln hn hT1.1 hT1.2.1 (fun i hi => by
    rw [fr 1 i (by omega) (by omega)]
    exact h.pB i hi) h.hc h.hp h.e1 h.e2 h.e3 h.c6 hm
  have W1 : zWg v D1 R1 := h.W.q (a3.c 18 1 (by omega) (by omega) (by omega) (by omega) (by omega)) (a3.c 18 2 (by omega) (by omega) (by omega) (by omega) (by omega)) (fun i => a3.c 19 i (by omega) (by omega) (by omega) (by omega) (by omega)) ((a3.r 7 (by omega) (by omega) (by omega) (by omega)).trans (fr 0 7 (by omega) (by omega))) (fun i => (a3.rp 4 i (by omega) (by omega) (by omega)).trans (fr 4 i (by omega) (by omega)))
  have pB1 : ∀ i, i < n → zg_i D1 2 i = zg_i R1 1 i ∧ y_B (zg_i R1 1 i) := fun i hi => by
    rw [a3.c 2 i (by omega) (by omega) (by omega) (by omega) (by omega), a3.rp 1 i (by omega) (by omega) (by omega), fr 1 i (by omega) (by omega)]
    exact h.pB i hi
  have c10 : zg_i D1 17 10 = if X = 0 then 1 else 0 := (a3.c 17 10 (by omega) (by omega) (by omega) (by omega) (by omega)).trans h.c10
  have c11 : zg_i D1 17 11 = if bf = 0 then 1 else 0 := (a3.c 17 11 (by omega) (by omega) (by omega) (by omega) (by omega)).trans h.c11
  have c12 : zg_i D1 17 12 = if bf = 1 then 0 else 1 := (a3.c 17 12 (by omega) (by omega) (by omega) (by omega) (by omega)).trans h.c12
  have c6 : zg_i D1 17 6 = nI pr := (a3.c 17 6 (by omega) (by omega) (by omega) (by omega) (by omega)).trans h.c6
  have eLm : nI (T - X) - 1 = nI (T - X - 1) := y_sub (b := 1) (by omega)
  have wA := w0.trans a3.p
  have fin : ∀ (bf' v' : Nat) (D3 R3 D' : zx_D), zWg v' D3 R3 → zWq D1 D3 R1 R3 → (∀ p k, ¬ (p = 17 ∧ 10 ≤ k) → zg_i D' p k = zg_i D3 p k) → (∀ p k, zg_l D' p k = zg_l D3 p k) → zg_i D' 17 10 = 0 → (zg_i D' 17 11 = if bf' = 0 then 1 else 0) → (zg_i D' 17 12 = if bf' = 1 then 0 else 1) → (bf' = 0 ∨ bf' = 1 ∨ bf' = 2) → (bf' = 1 → zMo lc lp pb T D1 R1) → zPc n pr lc lp pb v' (X + cs) bf' D' R3 ∧ zHp D D' R R3 := by
    intro bf' v' D3 R3 D' k1 k2 k3 k4 k5 k6 k7 k8 k9
    have wB : zHp D3 D' R3 R3 := ⟨fun p k _ _ _ _ _ _ a7 => k3 p k a7, fun p k _ _ _ => k4 p k, fun _ _ _ _ => Eq.refl _, fun _ _ _ _ _ _ => Eq.refl _, fun _ _ => Eq.refl _⟩
    have wC := (wA.trans k2.p).trans wB
    refine ⟨⟨hn, fun i hi => ?_, k1.q (k3 18 1 (by omega)) (k3 18 2 (by omega)) (fun i => k3 19 i (by omega)) rfl (fun _ => rfl), (wC.c 1 1 (by omega) (by omega) (by omega) (by omega) (by omega) (by omega) (by omega)).trans h.nC, (wC.r 1 (by omega) (by omega) (by omega)).trans h.nR, h.hc, h.hp, h.e1, h.e2, h.e3, h.hpr, (wC.c 17 6 (by omega) (by omega) (by omega) (by omega) (by omega) (by omega) (by omega)).trans h.c6, by omega, by rw [k5, if_neg (by omega)], k6, k7, (wC.r 9 (by omega) (by omega) (by omega)).trans h.r9, (wC.r 10 (by omega) (by omega) (by omega)).trans h.r10, (wC.r 11 (by omega) (by omega) (by omega)).trans h.r11, fun t => ?_⟩, wC⟩
    · rw [wC.c 2 i (by omega) (by omega) (by omega) (by omega) (by omega) (by omega) (by omega), wC.rp 1 i (by omega) (by omega) (by omega) (by omega)]
      exact h.pB i hi
    · exact (k9 t).fr (by omega) (fun k => (k3 6 k (by omega)).trans (k2.c 6 k (by omega) (by omega))) (fun k _ _ => (k3 7 k (by omega)).trans (k2.c 7 k (by omega) (by omega))) (fun k => (k4 8 k).trans (k2.cl 8 k)) (fun k k1 k3 => k2.r k (by omega)) (fun k => k2.rp 5 k (by omega) (by omega)) (fun k _ _ => k2.rl 0 k)
  have uR : ∀ k, g_R_writeChunks_31 (nI pr) (nI cs) (k + 1) (nI bf) (nI X) R = _ := fun k => by
    rw [g_R_writeChunks_31, h.nR, if_neg (fun q => by have := (y_le (by omega) (by omega)).mp q; omega), eR, o_sb, hR0, o_sb, a2, o_sb]
  rw [eT]
  unfold c_piece
  rw [a1, o_sb]
  rcases a4 with rfl | ⟨rfl, hmo, sz, z1, z2, z3, z4, z5⟩
  · -- plain
    rw [if_pos rfl]
    obtain ⟨ct, hct, eC, eC'⟩ : ∃ ct : Nat, ct < 256 ∧ ((if zg_i D1 17 10 = 0 then some 2 else some 1) : Option Int32) = some (nI ct) ∧ ((if ¬ nI X = 0 then some 2 else some 1) : Option Int32) = some (nI ct) := by
      by_cases t : X = 0
      · refine ⟨1, by omega, by rw [c10, if_pos t]; rfl, by rw [t]; rfl⟩
      · refine ⟨2, by omega, by rw [c10, if_neg t]; rfl, ?_⟩
        rw [if_pos (show ¬ nI X = 0 from fun q => t ((y_eq (b := 0) (by omega) (by omega)).mp q))]
        rfl
    obtain ⟨D2, R2, b1, b2, b3, b4⟩ := w_g2 (b := nI ct) (b' := nI ct) W1 (fun _ => ⟨rfl, ct, hct, rfl⟩) (by omega)
    obtain ⟨D3, R3, R4, d1, d2, d3, d4, d5⟩ := w_two (u := T - X - 1) (by omega) b3 (by omega)
    have b5 := b4.trans d5
    obtain ⟨D4, R5, f1, f2, f3, f4⟩ := w_allP (nI pr) (nI cs) (nI bf) (n := n) (X := X) (len := T - X) hn (by omega) (T - X) 10000 10000 0 (v + 1 + 2) D3 R4 (by omega) (by omega) (by omega) d4 (by omega) (fun q hq => by
      rw [b5.c 2 q (by omega) (by omega), b5.rp 1 q (by omega) (by omega)]
      exact pB1 q hq)
    have f1 : g_Row_appendAll_18_2_3 (nI X) (nI (T - X)) 10000 (nI X) D3 = some D4 := f1
    have f2 : g_R_writeChunks_256 (nI pr) (nI cs) (nI bf) (nI X) (nI (T - X)) 10000 0 R4 = some R5 := f2
    have b6 := b5.trans f4
    obtain ⟨bf', hbf1, hbf2, hbf3⟩ : ∃ bf', (bf = 0 → bf' = 0) ∧ (bf ≠ 0 → bf' = 2) ∧ (bf' = 0 ∨ bf' = 2) := by
      by_cases t : bf = 0
      · exact ⟨0, fun _ => rfl, fun q => by omega, Or.inl rfl⟩
      · exact ⟨2, fun q => by omega, fun _ => rfl, Or.inr rfl⟩
    obtain ⟨g1, g2⟩ := fin bf' (v + 1 + 2 + (T - X)) D4 R5 (zp_i (zp_i D4 17 12 1) 17 10 0) f3 b6 (fun p k hp => by rw [y_gi, if_neg (by omega), y_gi, if_neg (by omega)]) (fun _ _ => rfl) rfl (by
        show zg_i D4 17 11 = _
        rw [b6.c 17 11 (by omega) (by omega), c11]
        by_cases t : bf = 0
        · rw [if_pos t, if_pos (hbf1 t)]
        · rw [if_neg t, if_neg (by rw [hbf2 t]; omega)]) (by
        show (1 : Int32) = _
        rw [if_neg (by omega)]) (by omega) (fun t => by omega)
    refine ⟨ln', zp_i (zp_i D4 17 12 1) 17 10 0, R5, v + 1 + 2 + (T - X), bf', ?_, fun k => ?_, g1, by omega, by omega, g2⟩
    · rw [y_sub (by omega), g_Pkg_writePlain, eC, o_sb, b1, o_sb, eLm, d1, o_sb, g_Row_appendAll_18_2, f1, o_sb, o_sb, o_sb]
    · rw [uR k]
      show (if (0 : Int32) = 0 then _ else _) = _
      rw [if_pos rfl, eC', o_sb, b2, o_sb, eLm, d2, o_sb, d3, o_sb, f2, o_sb, y_add]
      by_cases t : bf = 0
      · rw [if_neg (show ¬ ¬ nI bf = 0 from fun q => q (by rw [t]; rfl)), hbf1 t]
        rfl
      · rw [if_pos (show ¬ nI bf = 0 from fun q => t ((y_eq (b := 0) (by omega) (by omega)).mp q)), hbf2 t]
        rfl
  · -- coded
    rw [if_neg (show ¬ (1 : Int32) = 0 by decide)]
    obtain ⟨ct, hct, eC, eC', eP⟩ : ∃ ct : Nat, ct < 256 ∧ ((if zg_i D1 17 10 = 0 then if zg_i D1 17 11 = 0 then if zg_i D1 17 12 = 0 then some 128 else some 160 else some 192 else some 224) : Option Int32) = some (nI ct) ∧ ((if ¬ nI X = 0 then if ¬ nI bf = 0 then if ¬ nI bf = 1 then some 160 else some 128 else some 192 else some 224) : Option Int32) = some (nI ct) ∧ (192 ≤ ct ↔ bf = 0) := by
      by_cases t : X = 0
      · refine ⟨224, by omega, by rw [c10, if_pos t]; rfl, by rw [t]; rfl, by omega⟩
      · have tX : ¬ nI X = 0 := fun q => t ((y_eq (b := 0) (by omega) (by omega)).mp q)
        rw [c10, if_neg t, if_pos rfl, if_pos tX, c11, c12]
        rcases hbb with rfl | ⟨_, rfl | rfl⟩
        · exact ⟨192, by omega, rfl, rfl, by omega⟩
        · exact ⟨128, by omega, rfl, rfl, by omega⟩
        · exact ⟨160, by omega, rfl, rfl, by omega⟩
    obtain ⟨D2, R2, b1, b2, b3, b4⟩ := w_g2 (b := nI ct) (b' := nI ct) W1 (fun _ => ⟨rfl, ct, hct, rfl⟩) (by omega)
    obtain ⟨D3, R3, R4, d1, d2, d3, d4, d5⟩ := w_two (u := T - X - 1) (by omega) b3 (by omega)
    have b5 := b4.trans d5
    have z3' : zg_i D3 20 4 - 1 = nI (sz - 1) := by
      rw [b5.c 20 4 (by omega) (by omega), z3]
      exact y_sub (b := 1) (by omega)
    have z4' : zg_i R4 0 25 - 1 = nI (sz - 1) := by
      rw [b5.r 25 (by omega), z4]
      exact y_sub (b := 1) (by omega)
    obtain ⟨D4, R5, R6, f1, f2, f3, f4, f5⟩ := w_two (u := sz - 1) (by omega) d4 (by omega)
    have b6 := b5.trans f5
    obtain ⟨D5, R7, v5, g1, g2, g3, g4, g5, g6⟩ : ∃ D5 R7 v5, ((if nI ct < 192 then some D4 else (g_Row_append_18 (zg_i D4 17 6) D4).bind fun q5 => some q5) : Option zx_D) = some D5 ∧ ((if ¬ nI bf = 0 then some R6 else (g_R_write (nI pr) R6).bind fun q17 => some q17) : Option zx_D) = some R7 ∧ zWg v5 D5 R7 ∧ zWq D4 D5 R6 R7 ∧ v + 1 + 2 + 2 ≤ v5 ∧ v5 ≤ v + 1 + 2 + 2 + 1 := by
      by_cases t : bf = 0
      · have h6 : zg_i D4 17 6 = nI pr := (b6.c 17 6 (by omega) (by omega)).trans c6
        have hpr := h.hpr
        obtain ⟨D5, R7, g1, g2, g3, g4⟩ := w_g2 (b := nI pr) (b' := nI pr) f4 (fun _ => ⟨rfl, pr, by omega, rfl⟩) (by omega)
        refine ⟨D5, R7, _, ?_, ?_, g3, g4, by omega, by omega⟩
        · rw [if_neg (show ¬ nI ct < 192 from fun q => by have := (y_lt (b := 192) (by omega) (by omega)).mp q; omega), h6, g1, o_sb]
        · rw [if_neg (show ¬ ¬ nI bf = 0 from fun q => q (by rw [t]; rfl)), g2, o_sb]
      · refine ⟨D4, R6, _, ?_, ?_, f4, zWq_rfl, by omega, by omega⟩
        · rw [if_pos (show nI ct < 192 from (y_lt (b := 192) (by omega) (by omega)).mpr (by omega))]
        · rw [if_pos (show ¬ nI bf = 0 from fun q => t ((y_eq (b := 0) (by omega) (by omega)).mp q))]
    have b7 := b6.trans g4
    have z3'' : zg_i D5 20 4 = nI sz := (b7.c 20 4 (by omega) (by omega)).trans z3
    obtain ⟨D6, R8, l1, l2, l3, l4⟩ := w_allS (nI pr) (nI cs) (nI X) (sz := sz) (by omega) sz 10000 10000 0 v5 D5 R7 (by omega) (by omega) (by omega) g3 (by omega) ((b7.r 25 (by omega)).trans z4) (fun q hq => by
      rw [b7.c 21 q (by omega) (by omega), b7.rp 6 q (by omega) (by omega)]
      exact z5 q hq)
    have l1 : g_Row_appendAll_18_21_3 0 (nI sz) 10000 0 D5 = some D6 := l1
    have l2 : g_R_writeChunks_185 (nI pr) (nI cs) (nI X) 10000 0 R7 = some R8 := l2
    have b8 := b7.trans l4
    obtain ⟨u1, u2⟩ := fin 1 (v5 + sz) D6 R8 (zp_i (zp_i (zp_i D6 17 11 0) 17 12 0) 17 10 0) l3 b8 (fun p k hp => by rw [y_gi, if_neg (by omega), y_gi, if_neg (by omega), y_gi, if_neg (by omega)]) (fun _ _ => rfl) rfl (by rw [if_neg (by omega)]; rfl) (by rw [if_pos rfl]; rfl) (by omega) (fun _ => hmo)
    refine ⟨ln', zp_i (zp_i (zp_i D6 17 11 0) 17 12 0) 17 10 0, R8, v5 + sz, 1, ?_, fun k => ?_, u1, by omega, by omega, u2⟩
    · rw [y_sub (by omega), g_Pkg_writeCoded, eC, o_sb, b1, o_sb, eLm, d1, o_sb, z3', f1, o_sb, g1, o_sb, z3'', g_Row_appendAll_18_21, l1, o_sb, o_sb, o_sb]
    · rw [uR k]
      show (if (1 : Int32) = 0 then _ else _) = _
      rw [if_neg (by decide), eC', o_sb, b2, o_sb, eLm, d2, o_sb, d3, o_sb, z4', f2, o_sb]
      have z4'' : zg_i R5 0 25 - 1 = nI (sz - 1) := by
        have e1 : zg_i R5 0 25 = zg_i R4 0 25 := by
          have e2 := f2
          rw [g_R_write] at e2
          revert e2
          split
          · intro e2
            rw [← Option.some.inj e2]
            rfl
          · split
            · intro e2
              rw [← Option.some.inj e2]
              rfl
            · intro e2
              cases e2
        rw [e1]
        exact z4'
      rw [z4'', f3, o_sb, g2, o_sb, l2, o_sb, y_add]
      rfl
