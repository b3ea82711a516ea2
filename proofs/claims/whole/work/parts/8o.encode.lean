def zGd (n L lc lp pb P : Nat) (D R : zx_D) : Prop := ∃ st sz r, zN n L sz r lc lp pb st D R ∧ zDs D R ∧ (7 ≤ st → ∃ d, 1 ≤ d ∧ d ≤ P ∧ zg_l R 0 13 = nL d)
theorem e_lost {X T P k1 k2 : Nat} {D R : zx_D} (h : zL D R) : g_Pkg_encode_62 (nI T) (k1 + 1) (nI P) D = some D ∧ g_R_squeeze_71 (nI X) (nI (T - X)) (k2 + 1) (nI (P - X)) R = some R := by
  constructor
  · rw [g_Pkg_encode_62]
    by_cases t : nI T ≤ nI P
    · rw [if_pos t]
    · rw [if_neg t, if_pos h.bC]
  · rw [g_R_squeeze_71]
    by_cases t : nI (T - X) ≤ nI (P - X)
    · rw [if_pos t]
    · rw [if_neg t, if_pos h.bR]
theorem t_tok2 {n L sz r lc lp pb st P T : Nat} {D R : zx_D} (h : zN n L sz r lc lp pb st D R) (S : zDs D R) (hds : 7 ≤ st → ∃ d, 1 ≤ d ∧ d ≤ P ∧ zg_l R 0 13 = nL d) (hPT : P < T) (hT : T ≤ n) :
    ∃ len D0 D' R' q7 q8 q9, 1 ≤ len ∧ len ≤ T - P ∧ g_Pkg_choose (nI P) (if 273 < nI T - nI P then 273 else nI T - nI P) D = some D0 ∧ g_Mdl_distanceOf 0 D0 = some q7 ∧ g_Row_byteBack_1 (nI P) q7 D0 = some q8 ∧ g_Row_byteBack_1 (nI P) 1 D0 = some q9 ∧ g_Mdl_step_k (nI P) q9 q8 D0 = some D' ∧ g_R_putToken (nI P) (nI (T - P)) R = some (nI len, R') ∧ zg_i D' 7 9 = nI len ∧ zHt D D' R R' ∧ (zGd n L lc lp pb (P + len) D' R' ∨ zL D' R') := by
  obtain ⟨len, D0, D1, R1, q7, q8, q9, a1, a2, a3, a4, a5, a6, a7, a8, a9, a10, a11⟩ := t_tok (T := T) h S hds hPT hT
  refine ⟨len, D0, D1, R1, q7, q8, q9, a1, a2, a3, a4, a5, a6, a7, a8, a9, a10, ?_⟩
  rcases a11 with ⟨st', ⟨sz', r', hN'⟩, S', hds'⟩ | hL
  · exact Or.inl ⟨st', sz', r', hN', S', hds'⟩
  · exact Or.inr hL
theorem e_loop {n L lc lp pb X T : Nat} (hT : T ≤ n) : ∀ (m k1 k2 P : Nat) (D R : zx_D), T - P ≤ m → m < k1 → m < k2 → X ≤ P → P ≤ T → zGd n L lc lp pb P D R →
    ∃ D' R', g_Pkg_encode_62 (nI T) k1 (nI P) D = some D' ∧ g_R_squeeze_71 (nI X) (nI (T - X)) k2 (nI (P - X)) R = some R' ∧ zHt D D' R R' ∧ (zGd n L lc lp pb T D' R' ∨ zL D' R')
  | m, k1 + 1, k2 + 1, P, D, R, hm, h1, h2, hX, hP, hG => by
    obtain ⟨st, sz, r, hN, S, hds⟩ := hG
    have hn := hN.hn
    by_cases t : P = T
    · subst t
      refine ⟨D, R, ?_, ?_, zHt_rfl, Or.inl ⟨st, sz, r, hN, S, hds⟩⟩
      · rw [g_Pkg_encode_62, if_pos ((y_le (by omega) (by omega)).mpr (by omega))]
      · rw [g_R_squeeze_71, if_pos ((y_le (by omega) (by omega)).mpr (by omega))]
    · obtain ⟨len, D0, D1, R1, q7, q8, q9, a1, a2, a3, a4, a5, a6, a7, a8, a9, a10, a11⟩ := t_tok2 (T := T) hN S hds (by omega) hT
      clear hds
      have bC : ¬ ¬ zg_i D 20 2 = 0 := fun q => q hN.bC
      have bR : ¬ ¬ zg_i R 0 27 = 0 := fun q => q hN.bR
      have eC : g_Pkg_encode_62 (nI T) (k1 + 1) (nI P) D = g_Pkg_encode_62 (nI T) k1 (nI (P + len)) D1 := by
        have e : nI P + (if 1 < zg_i D1 7 9 then zg_i D1 7 9 else 1) = nI (P + len) := by
          rw [a9]
          by_cases u : len = 1
          · rw [u, if_neg (by decide)]
            exact y_add P 1
          · rw [if_pos (show (1 : Int32) < nI len from (y_lt (a := 1) (by omega) (by omega)).mpr (by omega)), y_add]
        rw [g_Pkg_encode_62, if_neg (fun q => by have := (y_le (by omega) (by omega)).mp q; omega), if_neg bC, a3, o_sb, a4, o_sb, a5, o_sb, a6, o_sb, a7, o_sb, e]
      have eR : g_R_squeeze_71 (nI X) (nI (T - X)) (k2 + 1) (nI (P - X)) R = g_R_squeeze_71 (nI X) (nI (T - X)) k2 (nI (P + len - X)) R1 := by
        rw [g_R_squeeze_71, if_neg (fun q => by have := (y_le (by omega) (by omega)).mp q; omega), if_neg bR, y_add, y_sub (by omega), show X + (P - X) = P by omega, show T - X - (P - X) = T - P by omega, a8, o_sb]
        show g_R_squeeze_71 (nI X) (nI (T - X)) k2 (nI (P - X) + nI len) R1 = _
        rw [y_add, show P - X + len = P + len - X by omega]
      rw [eC, eR]
      rcases a11 with hG' | hL
      · obtain ⟨D', R', c1, c2, c3, c4⟩ := e_loop (X := X) hT (m - 1) k1 k2 (P + len) D1 R1 (by omega) (by omega) (by omega) (by omega) (by omega) hG'
        exact ⟨D', R', c1, c2, a10.trans c3, c4⟩
      · obtain ⟨k1', rfl⟩ : ∃ k, k1 = k + 1 := ⟨k1 - 1, by omega⟩
        obtain ⟨k2', rfl⟩ : ∃ k, k2 = k + 1 := ⟨k2 - 1, by omega⟩
        obtain ⟨c1, c2⟩ := e_lost (X := X) (T := T) (P := P + len) (k1 := k1') (k2 := k2') hL
        exact ⟨D1, R1, c1, c2, a10, Or.inr hL⟩
abbrev zHu (D D' R R' : zx_D) : Prop := Nonempty ((∀ p k, p ≠ 6 → p ≠ 7 → p ≠ 20 → p ≠ 21 → ¬ (p = 17 ∧ 13 ≤ k) → zg_i D' p k = zg_i D p k) ∧ (∀ p k, p ≠ 7 → p ≠ 8 → p ≠ 20 → zg_l D' p k = zg_l D p k) ∧ (∀ k, k ≠ 12 → k ≠ 25 → k ≠ 26 → k ≠ 27 → zg_i R' 0 k = zg_i R 0 k) ∧ (∀ p k, p ≠ 0 → p ≠ 5 → p ≠ 6 → zg_i R' p k = zg_i R p k) ∧ (∀ k, k < 13 ∨ 17 < k → zg_l R' 0 k = zg_l R 0 k))
theorem zHu.c {D D' R R' : zx_D} (h : zHu D D' R R') : ∀ p k, p ≠ 6 → p ≠ 7 → p ≠ 20 → p ≠ 21 → ¬ (p = 17 ∧ 13 ≤ k) → zg_i D' p k = zg_i D p k := h.elim fun q => q.1
theorem zHu.cl {D D' R R' : zx_D} (h : zHu D D' R R') : ∀ p k, p ≠ 7 → p ≠ 8 → p ≠ 20 → zg_l D' p k = zg_l D p k := h.elim fun q => q.2.1
theorem zHu.r {D D' R R' : zx_D} (h : zHu D D' R R') : ∀ k, k ≠ 12 → k ≠ 25 → k ≠ 26 → k ≠ 27 → zg_i R' 0 k = zg_i R 0 k := h.elim fun q => q.2.2.1
theorem zHu.rp {D D' R R' : zx_D} (h : zHu D D' R R') : ∀ p k, p ≠ 0 → p ≠ 5 → p ≠ 6 → zg_i R' p k = zg_i R p k := h.elim fun q => q.2.2.2.1
theorem zHu.rl {D D' R R' : zx_D} (h : zHu D D' R R') : ∀ k, k < 13 ∨ 17 < k → zg_l R' 0 k = zg_l R 0 k := h.elim fun q => q.2.2.2.2
theorem zHu_rfl {D R : zx_D} : zHu D D R R := ⟨fun _ _ _ _ _ _ _ => Eq.refl _, fun _ _ _ _ _ => Eq.refl _, fun _ _ _ _ _ => Eq.refl _, fun _ _ _ _ _ => Eq.refl _, fun _ _ => Eq.refl _⟩
theorem zHu.trans {D D' D'' R R' R'' : zx_D} (h1 : zHu D D' R R') (h2 : zHu D' D'' R' R'') : zHu D D'' R R'' :=
  ⟨fun p k a1 a2 a3 a4 a5 => (h2.c p k a1 a2 a3 a4 a5).trans (h1.c p k a1 a2 a3 a4 a5), fun p k a1 a2 a3 => (h2.cl p k a1 a2 a3).trans (h1.cl p k a1 a2 a3), fun k a1 a2 a3 a4 => (h2.r k a1 a2 a3 a4).trans (h1.r k a1 a2 a3 a4), fun p k a1 a2 a3 => (h2.rp p k a1 a2 a3).trans (h1.rp p k a1 a2 a3), fun k a1 => (h2.rl k a1).trans (h1.rl k a1)⟩
theorem zHt.u {D D' R R' : zx_D} (h : zHt D D' R R') : zHu D D' R R' := ⟨h.c, h.cl, fun k a1 a2 _ a4 => h.r k a1 a2 a4, h.rp, h.rl⟩
theorem c_f21 : ∀ (j k i : Nat) (D : zx_D), i + j = 400 → j < k → ∃ D', g_Arr_fill2_21_5 0 400 k (nI i) D = some D' ∧ (∀ q, i ≤ q → q < 400 → zg_i D' 21 q = 0) ∧ (∀ q, q < i → zg_i D' 21 q = zg_i D 21 q) ∧ (∀ p q, p ≠ 21 → zg_i D' p q = zg_i D p q) ∧ (∀ p q, zg_l D' p q = zg_l D p q)
  | 0, k + 1, i, D, hi, _ => by
    refine ⟨D, ?_, fun q h1 h2 => by omega, fun _ _ => rfl, fun _ _ _ => rfl, fun _ _ => rfl⟩
    rw [g_Arr_fill2_21_5, if_pos (show (400 : Int32) ≤ nI i from (y_le (a := 400) (by omega) (by omega)).mpr (by omega))]
  | j + 1, k + 1, i, D, hi, hk => by
    obtain ⟨D', a1, a2, a3, a4, a5⟩ := c_f21 j k (i + 1) (zp_i D 21 i 0) (by omega) (by omega)
    refine ⟨D', ?_, fun q h1 h2 => ?_, fun q hq => ?_, fun p q hp => ?_, fun p q => (a5 p q).trans rfl⟩
    · rw [g_Arr_fill2_21_5, if_neg (show ¬ (400 : Int32) ≤ nI i from fun q => by have := (y_le (a := 400) (by omega) (by omega)).mp q; omega), if_pos (y_in (by omega) (by omega)), y_zn (by omega), y_1]
      exact a1
    · by_cases t : q = i
      · subst t
        rw [a3 q (by omega), y_gi, if_pos ⟨rfl, rfl⟩]
      · exact a2 q (by omega) h2
    · rw [a3 q (by omega), y_gi, if_neg (by omega)]
    · rw [a4 p q hp, y_gi, if_neg (by omega)]
theorem r_s34 (x1 x2 : Int32) : ∀ (j k i : Nat) (R : zx_D), i + j = 5 → j < k → zg_i R 0 27 = 0 → zg_i R 0 25 = nI i → ∃ R', g_R_squeeze_34 x1 x2 k (nI i) R = some R' ∧ (∀ q, i ≤ q → q < 5 → zg_i R' 6 q = 0) ∧ (∀ q, q < i → zg_i R' 6 q = zg_i R 6 q) ∧ zg_i R' 0 25 = nI 5 ∧ (∀ p q, p ≠ 6 → ¬ (p = 0 ∧ q = 25) → zg_i R' p q = zg_i R p q) ∧ (∀ p q, zg_l R' p q = zg_l R p q)
  | 0, k + 1, i, R, hi, _, h27, h25 => by
    refine ⟨R, ?_, fun q h1 h2 => by omega, fun _ _ => rfl, by rw [h25, show i = 5 by omega], fun _ _ _ _ => rfl, fun _ _ => rfl⟩
    rw [g_R_squeeze_34, if_pos (show (5 : Int32) ≤ nI i from (y_le (a := 5) (by omega) (by omega)).mpr (by omega))]
  | j + 1, k + 1, i, R, hi, hk, h27, h25 => by
    obtain ⟨R', a1, a2, a3, a4, a5, a6⟩ := r_s34 x1 x2 j k (i + 1) (zp_i (zp_i R 6 i 0) 0 25 (nI (i + 1))) (by omega) (by omega) h27 rfl
    refine ⟨R', ?_, fun q h1 h2 => ?_, fun q hq => ?_, a4, fun p q hp hq => ?_, fun p q => (a6 p q).trans rfl⟩
    · rw [g_R_squeeze_34, if_neg (show ¬ (5 : Int32) ≤ nI i from fun q => by have := (y_le (a := 5) (by omega) (by omega)).mp q; omega), if_neg (fun q => q h27), if_pos (y_in (by omega) (by omega)), y_zn (by omega), h25, y_1]
      exact a1
    · by_cases t : q = i
      · subst t
        rw [a3 q (by omega), y_gi, if_neg (by omega), y_gi, if_pos ⟨rfl, rfl⟩]
      · exact a2 q (by omega) h2
    · rw [a3 q (by omega), y_gi, if_neg (by omega), y_gi, if_neg (by omega)]
    · rw [a5 p q hp hq, y_gi, if_neg (by omega), y_gi, if_neg (by omega)]
def zMo (lc lp pb P : Nat) (D R : zx_D) : Prop := ∃ st Z, zM lc lp pb st Z D R ∧ zDs D R ∧ (7 ≤ st → ∃ d, 1 ≤ d ∧ d ≤ P ∧ zg_l R 0 13 = nL d)
abbrev zRa (lc lp pb : Nat) (R : zx_D) : Prop := Nonempty ((zg_i R 0 9 = nI lc) ∧ (zg_i R 0 10 = nI lp) ∧ (zg_i R 0 11 = nI pb) ∧ (∀ k, k < 8328 → zg_i R 5 k = 1024) ∧ (∀ k, 13 ≤ k → k ≤ 16 → zg_l R 0 k = 1) ∧ (zg_i R 0 12 = 0))
theorem zRa.r9 {lc lp pb : Nat} {R : zx_D} (h : zRa lc lp pb R) : zg_i R 0 9 = nI lc := h.elim fun q => q.1
theorem zRa.r10 {lc lp pb : Nat} {R : zx_D} (h : zRa lc lp pb R) : zg_i R 0 10 = nI lp := h.elim fun q => q.2.1
theorem zRa.r11 {lc lp pb : Nat} {R : zx_D} (h : zRa lc lp pb R) : zg_i R 0 11 = nI pb := h.elim fun q => q.2.2.1
theorem zRa.ch {lc lp pb : Nat} {R : zx_D} (h : zRa lc lp pb R) : ∀ k, k < 8328 → zg_i R 5 k = 1024 := h.elim fun q => q.2.2.2.1
theorem zRa.ds {lc lp pb : Nat} {R : zx_D} (h : zRa lc lp pb R) : ∀ k, 13 ≤ k → k ≤ 16 → zg_l R 0 k = 1 := h.elim fun q => q.2.2.2.2.1
theorem zRa.st {lc lp pb : Nat} {R : zx_D} (h : zRa lc lp pb R) : zg_i R 0 12 = 0 := h.elim fun q => q.2.2.2.2.2
theorem zMo_anew {lc lp pb P : Nat} {D R : zx_D} (hc : lc + lp ≤ 3) (hp : pb ≤ 4) (c3 : zg_i D 7 3 = nI lc) (c4 : zg_i D 7 4 = nI lp) (c5 : zg_i D 7 5 = nI pb) (hC : ∀ k, k < 2052 + 768 * 2 ^ (lc + lp) → zg_i D 6 k = 1024) (h8 : ∀ k, k < 4 → zg_l D 8 k = 1) (s2 : zg_i D 7 2 = 0) (h : zRa lc lp pb R) : zMo lc lp pb P D R := by
  have hl8 := pw_le hc
  refine ⟨0, fun _ => 0, ⟨hc, hp, c3, h.r9, c4, h.r10, c5, h.r11, by omega, s2, h.st, fun k hk => ⟨1024, by omega, by omega, hC k hk, h.ch (zf k) (zf_lt (by omega)), (show 1024 * 31 ^ 0 ≤ (2048 - 1024) * 32 ^ 0 by decide)⟩⟩, ⟨⟨1, by omega, by omega, h8 0 (by omega), h.ds 13 (by omega) (by omega)⟩, ⟨1, by omega, by omega, h8 1 (by omega), h.ds 14 (by omega) (by omega)⟩, ⟨1, by omega, by omega, h8 2 (by omega), h.ds 15 (by omega) (by omega)⟩, ⟨1, by omega, by omega, h8 3 (by omega), h.ds 16 (by omega) (by omega)⟩⟩, fun t => by omega⟩
theorem zMo.fr {lc lp pb P P' : Nat} {D R D' R' : zx_D} (h : zMo lc lp pb P D R) (hP : P ≤ P') (h6 : ∀ k, zg_i D' 6 k = zg_i D 6 k) (h7 : ∀ k, 2 ≤ k → k ≤ 5 → zg_i D' 7 k = zg_i D 7 k) (h8 : ∀ k, zg_l D' 8 k = zg_l D 8 k) (hr : ∀ k, 9 ≤ k → k ≤ 12 → zg_i R' 0 k = zg_i R 0 k) (h5 : ∀ k, zg_i R' 5 k = zg_i R 5 k) (hl : ∀ k, 13 ≤ k → k ≤ 16 → zg_l R' 0 k = zg_l R 0 k) : zMo lc lp pb P' D' R' := by
  obtain ⟨st, Z, a1, a2, a4⟩ := h
  refine ⟨st, Z, zM_fr a1 h6 h7 hr h5, a2.fr h8 hl, fun t => ?_⟩
  obtain ⟨d, d1, d2, d3⟩ := a4 t
  exact ⟨d, d1, by omega, (hl 13 (by omega) (by omega)).trans d3⟩
theorem s_enc {n lc lp pb pr X T : Nat} {D R : zx_D} (ln : Nat) (hn : n ≤ 400) (hXT : X < T) (hT : T ≤ n) (hB : ∀ i, i < n → zg_i D 2 i = zg_i R 1 i ∧ y_B (zg_i R 1 i)) (hc : lc + lp ≤ 3) (hp : pb ≤ 4) (e1 : zo_rem (nI pr) 9 = nI lc) (e2 : zo_rem (nI pr / 9) 5 = nI lp) (e3 : nI pr / 45 = nI pb) (h6 : zg_i D 17 6 = nI pr)
    (hm : (zg_i D 17 12 = 0 ∧ zMo lc lp pb X D R) ∨ (zg_i D 17 12 = 1 ∧ zRa lc lp pb R)) :
    ∃ ans ln' D' R', g_Pkg_encode ln (nI X) (nI T) D = some (ans, ln', D') ∧ g_R_squeeze (nI X) (nI (T - X)) R = some (ans, R') ∧ zHu D D' R R' ∧ (ans = 0 ∨ (ans = 1 ∧ zMo lc lp pb T D' R' ∧ ∃ sz, 5 ≤ sz ∧ sz < T - X ∧ zg_i D' 20 4 = nI sz ∧ zg_i R' 0 25 = nI sz ∧ ∀ i, i < sz → zg_i D' 21 i = zg_i R' 6 i ∧ y_B (zg_i R' 6 i))) := by
  obtain ⟨L, hL⟩ : ∃ L, L = T - X := ⟨_, rfl⟩
  have eL : nI T - nI X - 1 = nI (L - 1) := by
    rw [y_sub (by omega), ← hL]
    exact y_sub (b := 1) (by omega)
  have e400 : (if 400 < nI (L - 1) then 400 else nI (L - 1)) = nI (L - 1) := if_neg (show ¬ (400 : Int32) < nI (L - 1) from fun q => by have := (y_lt (a := 400) (by omega) (by omega)).mp q; omega)
  rw [← hL]
  by_cases t : L ≤ 5
  · -- too short
    obtain ⟨D1, a1, a2, a3, a4, a5⟩ := c_f21 400 10000 0 (zp_l (zp_i (zp_i (zp_i D 20 5 (nI (L - 1))) 20 2 1) 20 4 5) 20 1 4294967295) (by omega) (by omega)
    have a1 : g_Arr_fill2_21_5 0 400 10000 0 (zp_l (zp_i (zp_i (zp_i D 20 5 (nI (L - 1))) 20 2 1) 20 4 5) 20 1 4294967295) = some D1 := a1
    have b : g_Snk_begin (nI T - nI X - 1) D = some D1 := by
      rw [eL, g_Snk_begin, e400, if_neg (show ¬ (5 : Int32) ≤ nI (L - 1) from fun q => by have := (y_le (a := 5) (by omega) (by omega)).mp q; omega), o_sb, if_pos (Or.inr rfl), g_Arr_fill2_21, a1, o_sb, o_sb]
    have b2 : ¬ zg_i D1 20 2 = 0 := by
      rw [a4 20 2 (by omega)]
      show ¬ (1 : Int32) = 0
      decide
    have l6 : ¬ (6 : Int32) ≤ nI L := fun q => by have := (y_le (a := 6) (by omega) (by omega)).mp q; omega
    refine ⟨0, ln, D1, zp_i (zp_i (zp_i (zp_l R 0 17 4294967295) 0 25 0) 0 26 (nI L)) 0 27 1, ?_, ?_, ⟨fun p k x1 x2 x3 x4 x5 => ?_, fun p k x1 x2 x3 => ?_, fun k x1 x2 x3 x4 => ?_, fun p k x1 x2 x3 => ?_, fun k x1 => ?_⟩, Or.inl rfl⟩
    · rw [g_Pkg_encode, b, o_sb, if_neg b2]
    · rw [g_R_squeeze, if_neg l6, o_sb, if_pos (Or.inr rfl), show (10000 : Nat) = 9999 + 1 from rfl, g_R_squeeze_34, if_neg (by decide), if_pos (show ¬ zg_i (zp_i (zp_i (zp_i (zp_l R 0 17 4294967295) 0 25 0) 0 26 (nI L)) 0 27 1) 0 27 = 0 from (by decide : ¬ (1 : Int32) = 0)), o_sb, g_R_squeeze_71, if_neg (show ¬ nI L ≤ 0 from fun q => by have := (y_le (b := 0) (by omega) (by omega)).mp q; omega), if_pos (show ¬ zg_i (zp_i (zp_i (zp_i (zp_l R 0 17 4294967295) 0 25 0) 0 26 (nI L)) 0 27 1) 0 27 = 0 from (by decide : ¬ (1 : Int32) = 0)), o_sb, if_pos (show ¬ zg_i (zp_i (zp_i (zp_i (zp_l R 0 17 4294967295) 0 25 0) 0 26 (nI L)) 0 27 1) 0 27 = 0 from (by decide : ¬ (1 : Int32) = 0))]
    · rw [a4 p k x4]
      show zg_i (zp_i (zp_i (zp_i D 20 5 (nI (L - 1))) 20 2 1) 20 4 5) p k = _
      rw [y_gi, if_neg (by omega), y_gi, if_neg (by omega), y_gi, if_neg (by omega)]
    · rw [a5 p k, y_gl, if_neg (by omega)]
      rfl
    · rw [y_gi, if_neg (by omega), y_gi, if_neg (by omega), y_gi, if_neg (by omega)]
      rfl
    · rw [y_gi, if_neg (by omega), y_gi, if_neg (by omega), y_gi, if_neg (by omega)]
      rfl
    · show zg_l (zp_l R 0 17 4294967295) 0 k = _
      rw [y_gl, if_neg (by omega)]
  · -- long enough
    obtain ⟨D1, a1, a2, a3, a4, a5⟩ := c_f21 400 10000 0 (zp_l (zp_i (zp_i (zp_i D 20 5 (nI (L - 1))) 20 2 0) 20 4 5) 20 1 4294967295) (by omega) (by omega)
    have a1 : g_Arr_fill2_21_5 0 400 10000 0 (zp_l (zp_i (zp_i (zp_i D 20 5 (nI (L - 1))) 20 2 0) 20 4 5) 20 1 4294967295) = some D1 := a1
    have b : g_Snk_begin (nI T - nI X - 1) D = some D1 := by
      rw [eL, g_Snk_begin, e400, if_pos (show (5 : Int32) ≤ nI (L - 1) from (y_le (a := 5) (by omega) (by omega)).mpr (by omega)), o_sb, if_pos (Or.inl rfl), g_Arr_fill2_21, a1, o_sb, o_sb]
    have b2 : zg_i D1 20 2 = 0 := (a4 20 2 (by omega)).trans rfl
    have d1 : ∀ p k, p ≠ 20 → p ≠ 21 → zg_i D1 p k = zg_i D p k := fun p k x1 x2 => by
      rw [a4 p k x2]
      show zg_i (zp_i (zp_i (zp_i D 20 5 (nI (L - 1))) 20 2 0) 20 4 5) p k = _
      rw [y_gi, if_neg (by omega), y_gi, if_neg (by omega), y_gi, if_neg (by omega)]
    have d1l : ∀ p k, p ≠ 20 → zg_l D1 p k = zg_l D p k := fun p k x1 => by
      rw [a5 p k, y_gl, if_neg (by omega)]
      rfl
    have l6 : (6 : Int32) ≤ nI L := (y_le (a := 6) (by omega) (by omega)).mpr (by omega)
    obtain ⟨R1, r1, r2, r3, r4, r5, r6⟩ := r_s34 (nI X) (nI L) 5 10000 0 (zp_i (zp_i (zp_i (zp_l R 0 17 4294967295) 0 25 0) 0 26 (nI L)) 0 27 0) (by omega) (by omega) rfl rfl
    have r1 : g_R_squeeze_34 (nI X) (nI L) 10000 0 (zp_i (zp_i (zp_i (zp_l R 0 17 4294967295) 0 25 0) 0 26 (nI L)) 0 27 0) = some R1 := r1
    have q1 : ∀ p k, p ≠ 6 → ¬ (p = 0 ∧ 25 ≤ k ∧ k ≤ 27) → zg_i R1 p k = zg_i R p k := fun p k x1 x2 => by
      rw [r5 p k x1 (by omega), y_gi, if_neg (by omega), y_gi, if_neg (by omega), y_gi, if_neg (by omega)]
      rfl
    have q1l : ∀ k, k ≠ 17 → zg_l R1 0 k = zg_l R 0 k := fun k x1 => by
      rw [r6 0 k]
      show zg_l (zp_l R 0 17 4294967295) 0 k = _
      rw [y_gl, if_neg (by omega)]
    obtain ⟨D2, c1, c2, c3, c4⟩ : ∃ D2, ((if zg_i D1 17 12 = 0 then some D1 else (g_Mdl_setProperties (zg_i D1 17 6) D1).bind fun q2 => (g_Mdl_beginAnew q2).bind fun q3 => some q3) : Option zx_D) = some D2 ∧ zMo lc lp pb X D2 R1 ∧ (∀ p k, p ≠ 6 → p ≠ 7 → zg_i D2 p k = zg_i D1 p k) ∧ (∀ p k, p ≠ 8 → zg_l D2 p k = zg_l D1 p k) := by
      rcases hm with ⟨m1, m2⟩ | ⟨m1, m2⟩
      · refine ⟨D1, by rw [if_pos ((d1 17 12 (by omega) (by omega)).trans m1)], m2.fr (by omega) (fun k => d1 6 k (by omega) (by omega)) (fun k _ _ => d1 7 k (by omega) (by omega)) (fun k => d1l 8 k (by omega)) (fun k k1 k2 => q1 0 k (by omega) (by omega)) (fun k => q1 5 k (by omega) (by omega)) (fun k k1 k2 => q1l k (by omega)), fun _ _ _ _ => rfl, fun _ _ _ => rfl⟩
      · have e6 : zg_i D1 17 6 = nI pr := (d1 17 6 (by omega) (by omega)).trans h6
        have e12 : ¬ zg_i D1 17 12 = 0 := by
          rw [d1 17 12 (by omega) (by omega), m1]
          decide
        obtain ⟨D2, f1, f2, f3, f4, f5, f6⟩ := c_anew (lc := lc) (lp := lp) (D := zp_i (zp_i (zp_i D1 7 3 (nI lc)) 7 4 (nI lp)) 7 5 (nI pb)) hc rfl rfl
        have hRa : zRa lc lp pb R1 := ⟨(q1 0 9 (by omega) (by omega)).trans m2.r9, (q1 0 10 (by omega) (by omega)).trans m2.r10, (q1 0 11 (by omega) (by omega)).trans m2.r11, fun k hk => (q1 5 k (by omega) (by omega)).trans (m2.ch k hk), fun k k1 k2 => (q1l k (by omega)).trans (m2.ds k k1 k2), (q1 0 12 (by omega) (by omega)).trans m2.st⟩
        refine ⟨D2, ?_, zMo_anew hc hp ((f5 7 3 (by omega) (by omega)).trans rfl) ((f5 7 4 (by omega) (by omega)).trans rfl) ((f5 7 5 (by omega) (by omega)).trans rfl) f2 f3 f4 hRa, fun p k x1 x2 => ?_, fun p k x1 => (f6 p k x1).trans rfl⟩
        · rw [if_neg e12, e6, g_Mdl_setProperties, e1, e2, e3, o_sb, f1, o_sb]
        · rw [f5 p k x1 (by omega), y_gi, if_neg (by omega), y_gi, if_neg (by omega), y_gi, if_neg (by omega)]
    obtain ⟨st, Z, hM, S, hds⟩ := c2
    have hN : zN n L 5 4294967295 lc lp pb st D2 R1 := by
      refine ⟨fun i hi => ?_, hn, (c3 20 2 (by omega) (by omega)).trans b2, ?_, by omega, by omega, ?_, ?_, by omega, by omega, ?_, r4, fun i hi => ?_, fun i h1 h2 => ?_, by omega, by omega, ?_, ?_, Z, hM⟩
      · rw [c3 2 i (by omega) (by omega), d1 2 i (by omega) (by omega), q1 1 i (by omega) (by omega)]
        exact hB i hi
      · exact (r5 0 27 (by omega) (by omega)).trans rfl
      · exact (c3 20 5 (by omega) (by omega)).trans ((a4 20 5 (by omega)).trans rfl)
      · exact (r5 0 26 (by omega) (by omega)).trans rfl
      · exact (c3 20 4 (by omega) (by omega)).trans ((a4 20 4 (by omega)).trans rfl)
      · rw [c3 21 i (by omega) (by omega), a2 i (by omega) (by omega), r2 i (by omega) hi]
        exact ⟨rfl, 0, by omega, rfl⟩
      · rw [c3 21 i (by omega) (by omega), a2 i (by omega) h2]
      · exact (c4 20 1 (by omega)).trans ((a5 20 1).trans rfl)
      · exact (r6 0 17).trans rfl
    obtain ⟨D3, R3, g1, g2, g3, g4⟩ := e_loop (X := X) (T := T) hT (T - X) 10000 10000 X D2 R1 (by omega) (by omega) (by omega) (by omega) (by omega) ⟨st, 5, 4294967295, hN, S, hds⟩
    rw [Nat.sub_self, ← hL] at g2
    have g2 : g_R_squeeze_71 (nI X) (nI L) 10000 0 R1 = some R3 := g2
    have w0 : zHu D D2 R R1 := ⟨fun p k x1 x2 x3 x4 _ => (c3 p k x1 x2).trans (d1 p k x3 x4), fun p k _ x2 x3 => (c4 p k x2).trans (d1l p k x3), fun k _ x2 x3 x4 => q1 0 k (by omega) (by omega), fun p k x1 _ x3 => q1 p k x3 (by omega), fun k x1 => q1l k (by omega)⟩
    have w3 := w0.trans g3.u
    have uC : g_Pkg_encode ln (nI X) (nI T) D = (g_Snk_finish D3).bind fun q12 => if ¬ zg_i q12 20 2 = 0 then some (0, 20, q12) else some (1, 20, q12) := by
      rw [g_Pkg_encode, b, o_sb, if_pos b2, c1, o_sb, g_Mdl_useLine_20, o_sb, g1, o_sb]
    have uR : g_R_squeeze (nI X) (nI L) R = if ¬ zg_i R3 0 27 = 0 then some (0, R3) else (g_R_shiftOut R3).bind fun q5 => if ¬ zg_i q5 0 27 = 0 then some (0, q5) else some (1, q5) := by
      rw [g_R_squeeze, if_pos l6, o_sb, if_pos (Or.inl rfl), r1, o_sb, g2, o_sb]
    rw [uC, uR]
    rcases g4 with ⟨st3, sz3, rr3, hN3, S3, hds3⟩ | hL3
    · rw [if_neg (fun q => q hN3.bR)]
      rcases s_shiftO hN3 with ⟨sz4, rr4, D4, R4, s1, s2, s3, s4, s5⟩ | ⟨D4, R4, s1, s2, s3, s5⟩
      · rw [g_Snk_finish, s1, o_sb, s2, o_sb, o_sb, if_neg (fun q => q s3.bC), if_neg (fun q => q s3.bR)]
        obtain ⟨Z4, hM4⟩ := s3.md
        have hz1 := s3.hs1
        have hz2 := s3.hs2
        exact ⟨1, 20, D4, R4, rfl, rfl, w3.trans s5.t.u, Or.inr ⟨rfl, ⟨st3, Z4, hM4, S3.h s5, fun v => by
          obtain ⟨d, x1, x2, x3⟩ := hds3 v
          exact ⟨d, x1, x2, (s5.rl 13 (by omega)).trans x3⟩⟩, sz4, hz1, by omega, s3.sC, s3.sR, s3.low⟩⟩
      · rw [g_Snk_finish, s1, o_sb, s2, o_sb, o_sb, if_pos s3.bC, if_pos s3.bR]
        exact ⟨0, 20, D4, R4, rfl, rfl, w3.trans s5.t.u, Or.inl rfl⟩
    · have s1 : g_Snk_shift D3 = some D3 := by rw [g_Snk_shift, if_pos hL3.bC]
      rw [if_pos hL3.bR, g_Snk_finish, s1, o_sb, o_sb, if_pos hL3.bC]
      exact ⟨0, 20, D3, R3, rfl, rfl, w3, Or.inl rfl⟩
