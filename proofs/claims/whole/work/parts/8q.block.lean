theorem s_loop {n pr lc lp pb cs : Nat} (hcs : 1 ≤ cs) (hcs2 : cs ≤ 400) : ∀ (m k1 k2 X v bf r2 : Nat) (G D R : zx_D), n - X ≤ m → m < k1 → m < k2 → X ≤ 800 → zPc n pr lc lp pb v X bf G R → v + 500 + 406 * (n - X) < 2 ^ 20 → zWg v D R → (v ≤ 640 → D = G) → zg_i D 1 1 = nI n →
    ∃ r2' v' D' R', g_P_pack_62 (nI cs) k1 (nI X) r2 D = some (r2', D') ∧ g_R_writeChunks_31 (nI pr) (nI cs) k2 (nI bf) (nI X) R = some R' ∧ zWg v' D' R' ∧ v ≤ v' ∧ v' ≤ v + 406 * (n - X) ∧ zHp D D' R R'
  | m, k1 + 1, k2 + 1, X, v, bf, r2, G, D, R, hm, h1, h2, hX, hP, hv, hW, hG, hnC => by
    have hn := hP.hn
    by_cases t : n ≤ X
    · refine ⟨r2, v, D, R, ?_, ?_, hW, by omega, by omega, zHp_rfl⟩
      · rw [g_P_pack_62, hnC, if_pos ((y_le (by omega) (by omega)).mpr t)]
      · rw [g_R_writeChunks_31, hP.nR, if_pos ((y_le (by omega) (by omega)).mpr t)]
    · obtain ⟨ln', G1, R1, v1, bf1, a1, a2, a3, a4, a5, a6⟩ := s_piece (cs := cs) r2 hP (by omega) hcs hcs2 (by omega)
      have l : ¬ nI n ≤ nI X := fun q => t ((y_le (by omega) (by omega)).mp q)
      rw [a2 k2, g_P_pack_62, hnC, if_neg l, y_add]
      by_cases u : v ≤ 640
      · have e := hG u
        subst e
        have o := (hW.o u).oC
        have e1 : g_Pkg_writePiece r2 (nI X) (if nI n < nI (X + cs) then nI n else nI (X + cs)) D = some (ln', G1) := by
          rw [g_Pkg_writePiece, if_pos o]
          exact a1
        rw [e1, o_sb]
        obtain ⟨r2', v', D', R', b1, b2, b3, b4, b5, b6⟩ := s_loop hcs hcs2 (m - 1) k1 k2 (X + cs) v1 bf1 ln' G1 G1 R1 (by omega) (by omega) (by omega) (by omega) a3 (by omega) a3.W (fun _ => rfl) a3.nC
        exact ⟨r2', v', D', R', b1, b2, b3, by omega, by omega, a6.trans b6⟩
      · obtain ⟨f1, f2⟩ := hW.f (by omega)
        have e1 : g_Pkg_writePiece r2 (nI X) (if nI n < nI (X + cs) then nI n else nI (X + cs)) D = some (r2, D) := by
          rw [g_Pkg_writePiece, f2, if_neg (by decide)]
        rw [e1, o_sb]
        have W1 : zWg v1 D R1 := ⟨a3.W.hv, a3.W.sR, Or.inr ⟨by omega, f1, f2⟩, a3.W.bs⟩
        obtain ⟨r2', v', D', R', b1, b2, b3, b4, b5, b6⟩ := s_loop hcs hcs2 (m - 1) k1 k2 (X + cs) v1 bf1 r2 G1 D R1 (by omega) (by omega) (by omega) (by omega) a3 (by omega) W1 (fun q => by omega) hnC
        have w0 : zHp D D R R1 := ⟨fun _ _ _ _ _ _ _ _ _ => Eq.refl _, fun _ _ _ _ _ => Eq.refl _, a6.r, a6.rp, a6.rl⟩
        exact ⟨r2', v', D', R', b1, b2, b3, by omega, by omega, w0.trans b6⟩
theorem r_30 (x1 x2 x3 x4 : Int32) : ∀ (j k i : Nat) (R : zx_D), i + j = 4 → j < k → g_R_writeBlock_30 x1 x2 x3 x4 k (nI i) R = g_R_writeNumber_3 0 4 k (nI i) R
  | 0, k + 1, i, R, hi, _ => by
    have l : (4 : Int32) ≤ nI i := (y_le (a := 4) (by omega) (by omega)).mpr (by omega)
    rw [g_R_writeBlock_30, g_R_writeNumber_3, if_pos l, if_pos l]
  | j + 1, k + 1, i, R, hi, hk => by
    have l : ¬ (4 : Int32) ≤ nI i := fun q => by have := (y_le (a := 4) (by omega) (by omega)).mp q; omega
    have e : ((zo_lshr 0 (8 * nI i)) &&& 255).toInt32 = 0 := by
      have := y_ql (qv := 0) (k := i) (by omega) (by omega)
      have e2 : ((zo_lshr 0 (8 * nI i)) &&& 255).toInt32 = if i = 0 then nI 0 else 0 := this
      rw [e2]
      split <;> rfl
    rw [g_R_writeBlock_30, g_R_writeNumber_3, if_neg l, if_neg l, e, y_1]
    congr 1
    funext q
    exact r_30 x1 x2 x3 x4 j k (i + 1) q (by omega) (by omega)
def r_bk1 (x1 x2 x3 : Int32) (D : zx_D) : Option zx_D :=
  (g_R_write 2 D).bind fun q1 =>
  (g_R_write 0 q1).bind fun q2 =>
  (g_R_write 33 q2).bind fun q3 =>
  (g_R_write 1 q3).bind fun q4 =>
  (g_R_writeBlock_30 x1 x2 x3 (zg_i D 0 7) 10000 0 q4).bind fun q6 =>
  (g_R_writeSum (zg_i D 0 7) q6)
theorem k_head {v : Nat} {D R : zx_D} (x1 x2 x3 : Int32) (h : zWg v D R) (hv : v + 12 ≤ 640) : ∃ D' R', g_Pkg_writeHead D = some D' ∧ r_bk1 x1 x2 x3 R = some R' ∧ zWg (v + 12) D' R' ∧ zWq (zp_i (zp_i (zp_i (zp_i D 17 7 (nI v)) 17 10 1) 17 11 1) 17 12 1) D' R R' := by
  have sC : zg_i D 18 1 = nI v := (h.o (by omega)).sC
  have h0 : zWg v (zp_i (zp_i (zp_i (zp_i D 17 7 (nI v)) 17 10 1) 17 11 1) 17 12 1) R := h.q rfl rfl (fun _ => rfl) rfl (fun _ => rfl)
  obtain ⟨D1, R1, a1, a2, a3, a4⟩ := w_g2 (b := 2) (b' := 2) h0 (fun _ => ⟨rfl, 2, by omega, rfl⟩) (by omega)
  obtain ⟨D2, R2, b1, b2, b3, b4⟩ := w_g2 (b := 0) (b' := 0) a3 (fun _ => ⟨rfl, 0, by omega, rfl⟩) (by omega)
  obtain ⟨D3, R3, c1, c2, c3, c4⟩ := w_g2 (b := 33) (b' := 33) b3 (fun _ => ⟨rfl, 33, by omega, rfl⟩) (by omega)
  obtain ⟨D4, R4, d1, d2, d3, d4⟩ := w_g2 (b := 1) (b' := 1) c3 (fun _ => ⟨rfl, 1, by omega, rfl⟩) (by omega)
  obtain ⟨D5, R5, e1, e2, e3, e4⟩ := w_lowG 0 0 4 (by omega) d3 (fun _ => rfl) (by omega)
  have e1 : g_Row_appendLowFirst_18 0 4 D4 = some D5 := e1
  have e2 : g_R_writeNumber 0 4 R4 = some R5 := e2
  have e2' : g_R_writeNumber_3 0 4 10000 0 R4 = some R5 := by
    rw [g_R_writeNumber] at e2
    obtain ⟨q, q1, q2⟩ := zk_bind e2
    cases q2
    exact q1
  have e5 : g_R_writeBlock_30 x1 x2 x3 (nI v) 10000 0 R4 = some R5 := by
    have := r_30 x1 x2 x3 (nI v) 4 10000 0 R4 (by omega) (by omega)
    exact this.trans e2'
  obtain ⟨D6, R6, x, f1, f2, f3, f4, f5⟩ := w_wsum (s := v) e3 (by omega) (by omega)
  rw [if_pos (show v ≤ 640 by omega)] at f1
  have g7 : zg_i D5 17 7 = nI v := by
    rw [e4.c 17 7 (by omega) (by omega), d4.c 17 7 (by omega) (by omega), c4.c 17 7 (by omega) (by omega), b4.c 17 7 (by omega) (by omega), a4.c 17 7 (by omega) (by omega)]
    rfl
  refine ⟨D6, R6, ?_, ?_, f4, ((((a4.trans b4).trans c4).trans d4).trans e4).trans f5⟩
  · rw [g_Pkg_writeHead, sC, a1, o_sb, b1, o_sb, c1, o_sb, d1, o_sb, e1, o_sb, g7, f1, o_sb, f2, o_sb]
  · rw [r_bk1, h.sR, a2, o_sb, b2, o_sb, c2, o_sb, d2, o_sb, e5, o_sb, f3]
theorem s_s0 {n : Nat} {D R : zx_D} (hn : n ≤ 400) (nR : zg_i R 0 1 = nI n) (pB : ∀ i, i < n → zg_i D 2 i = zg_i R 1 i ∧ y_B (zg_i R 1 i)) : g_P_sumFour_2 0 (nI n) D = some (y_s4 (R.1 1) 0 n) ∧ g_R_sum_b0 R = some (y_s4 (R.1 1) 0 n) := by
  have e1 := y_sum4_2 D (j := 0) hn (Nat.zero_le _)
  have e2 := y_pl4 R n hn nR (fun i hi => (pB i hi).2) n 10000 0 4294967295 (by omega) (by omega) y_P_F
  have e1 : g_P_sumFour_2 0 (nI n) D = some (y_s4 (D.1 2) 0 n) := e1
  constructor
  · rw [e1, y_s4_congr (f := D.1 2) (g := R.1 1) (j := 0) (c := n) (fun i _ hi => (pB i (by omega)).1)]
  · rw [g_R_sum_b0, g_R_sum_b0_13]
    exact congrArg (fun o => Option.bind o (fun q => some (q ^^^ 4294967295))) e2
theorem s_s1 {n : Nat} {D R : zx_D} (hn : n ≤ 400) (nR : zg_i R 0 1 = nI n) (pB : ∀ i, i < n → zg_i D 2 i = zg_i R 1 i ∧ y_B (zg_i R 1 i)) : g_P_sumEight_2 0 (nI n) D = some (y_s8 (R.1 1) 0 n) ∧ g_R_sum_b1 R = some (y_s8 (R.1 1) 0 n) := by
  have e1 := y_sum8_2 D (j := 0) hn (Nat.zero_le _)
  have e2 := y_pl8 R n hn nR n 10000 0 (-1) (by omega) (by omega)
  have e1 : g_P_sumEight_2 0 (nI n) D = some (y_s8 (D.1 2) 0 n) := e1
  constructor
  · rw [e1, y_s8_congr (f := D.1 2) (g := R.1 1) (j := 0) (c := n) (fun i _ hi => (pB i (by omega)).1)]
  · rw [g_R_sum_b1, g_R_sum_b1_13]
    exact congrArg (fun o => Option.bind o (fun q => some (q ^^^ (-1)))) e2
def r_bk3 (x1 s : Int32) (q21 : zx_D) : Option (Int32 × zx_D) :=
  (g_R_write 0 q21).bind fun q8 =>
  (g_R_writeZeros s q8).bind fun q9 =>
  ((
    if ¬ x1 = 0 then
      if ¬ x1 = 1 then
        some 8
      else
        some 4
    else
      some 0
  ) : Option (Int32)).bind fun q10 =>
  if ¬ x1 = 0 then
    if ¬ x1 = 4 then
      (g_R_sum_b0 q9).bind fun q11 =>
      (g_R_writeNumber q11 q10 q9).bind fun q12 =>
      some (((zg_i q8 0 7) - s) + q10, q12)
    else
      (g_R_sum_b1 q9).bind fun q13 =>
      (g_R_writeNumber q13 q10 q9).bind fun q14 =>
      some (((zg_i q8 0 7) - s) + q10, q14)
  else
    (g_R_writeNumber 0 q10 q9).bind fun q15 =>
    some (((zg_i q8 0 7) - s) + q10, q15)
theorem k_close {n v s : Nat} {x1 : Int32} {D R : zx_D} (hx : x1 = 0 ∨ x1 = 1 ∨ x1 = 4) (h : zWg v D R) (hs : s ≤ v) (hs6 : s ≤ 640) (hv : v + 20 < 2 ^ 20) (hn : n ≤ 400) (nC : zg_i D 1 1 = nI n) (nR : zg_i R 0 1 = nI n) (pB : ∀ i, i < n → zg_i D 2 i = zg_i R 1 i ∧ y_B (zg_i R 1 i)) (c7 : zg_i D 17 7 = nI s) (c5 : zg_i D 17 5 = x1) :
    ∃ D' R' v' u, g_Pkg_closeBlock D = some D' ∧ r_bk3 x1 (nI s) R = some (nI u, R') ∧ zWg v' D' R' ∧ v ≤ v' ∧ v' ≤ v + 12 ∧ u ≤ v + 9 ∧ (v' ≤ 640 → zg_l D' 17 8 = nL u) ∧ (∀ p k, p ≠ 18 → p ≠ 19 → zg_i D' p k = zg_i D p k) ∧ (∀ p k, p ≠ 17 → zg_l D' p k = zg_l D p k) ∧ (∀ k, k ≠ 7 → zg_i R' 0 k = zg_i R 0 k) ∧ (∀ p k, p ≠ 0 → p ≠ 4 → zg_i R' p k = zg_i R p k) ∧ (∀ p k, zg_l R' p k = zg_l R p k) := by
  obtain ⟨D1, R1, a1, a2, a3, a4⟩ := w_g2 (b := 0) (b' := 0) h (fun _ => ⟨rfl, 0, by omega, rfl⟩) (by omega)
  have g7 : zg_i D1 17 7 = nI s := (a4.c 17 7 (by omega) (by omega)).trans c7
  have g5 : zg_i D1 17 5 = x1 := (a4.c 17 5 (by omega) (by omega)).trans c5
  have key : ∀ ck : Nat, ck ≤ 8 → ∃ D2 R2 v2, g_Pkg_fillUp (nI s) (zp_l D1 17 8 ((((zg_i D1 18 1) - nI s) + nI ck).toInt64)) = some D2 ∧ g_R_writeZeros (nI s) R1 = some R2 ∧ zWg v2 D2 R2 ∧ v + 1 ≤ v2 ∧ v2 < v + 1 + 4 ∧ (v2 ≤ 640 → zg_l D2 17 8 = nL (v + 1 - s + ck)) ∧ zWq (zp_l D1 17 8 ((((zg_i D1 18 1) - nI s) + nI ck).toInt64)) D2 R1 R2 := by
    intro ck hck
    have h1 : zWg (v + 1) (zp_l D1 17 8 ((((zg_i D1 18 1) - nI s) + nI ck).toInt64)) R1 := a3.q rfl rfl (fun _ => rfl) rfl (fun _ => rfl)
    obtain ⟨v2, D2, R2, b1, b2, b3, b4, b5, b6, b7⟩ := w_zeroG (s := s) h1 (by omega) (by omega)
    rw [if_pos hs6] at b4
    refine ⟨D2, R2, v2, b4, b5, b6, b1, by omega, fun q => ?_, b7⟩
    rw [b7.cl 17 8, y_gl, if_pos ⟨rfl, rfl⟩, (a3.o (by omega)).sC, y_sub (by omega), y_add, v_of (by omega)]
  have sz : zg_i R1 0 7 - nI s = nI (v + 1 - s) := by
    rw [a3.sR]
    exact y_sub (by omega)
  have fr : ∀ (ck : Nat) (D2 R2 : zx_D), zWq (zp_l D1 17 8 ((((zg_i D1 18 1) - nI s) + nI ck).toInt64)) D2 R1 R2 → ((∀ p k, p ≠ 18 → p ≠ 19 → zg_i D2 p k = zg_i D p k) ∧ (∀ p k, p ≠ 17 → zg_l D2 p k = zg_l D p k) ∧ (∀ k, k ≠ 7 → zg_i R2 0 k = zg_i R 0 k) ∧ (∀ p k, p ≠ 0 → p ≠ 4 → zg_i R2 p k = zg_i R p k) ∧ (∀ p k, zg_l R2 p k = zg_l R p k)) := by
    intro ck D2 R2 w
    refine ⟨fun p k q1 q2 => (w.c p k q1 q2).trans (a4.c p k q1 q2), fun p k q1 => ?_, fun k q1 => (w.r k q1).trans (a4.r k q1), fun p k q1 q2 => (w.rp p k q1 q2).trans (a4.rp p k q1 q2), fun p k => (w.rl p k).trans (a4.rl p k)⟩
    rw [w.cl p k, y_gl, if_neg (by omega)]
    exact a4.cl p k
  have fin : ∀ (ck : Nat) (x y : Int64) (D2 R2 : zx_D) (v2 : Nat), ck ≤ 8 → zWg v2 D2 R2 → v + 1 ≤ v2 → v2 < v + 1 + 4 → (v2 ≤ 640 → zg_l D2 17 8 = nL (v + 1 - s + ck)) → zWq (zp_l D1 17 8 ((((zg_i D1 18 1) - nI s) + nI ck).toInt64)) D2 R1 R2 → x = y → (∀ D3 R3, g_Row_appendLowFirst_18 x (nI ck) D2 = some D3 → g_R_writeNumber y (nI ck) R2 = some R3 → g_Pkg_closeBlock D = some D3 ∧ r_bk3 x1 (nI s) R = some (nI (v + 1 - s) + nI ck, R3)) → v2 + ck ≤ v + 12 → ∃ D' R' v' u, g_Pkg_closeBlock D = some D' ∧ r_bk3 x1 (nI s) R = some (nI u, R') ∧ zWg v' D' R' ∧ v ≤ v' ∧ v' ≤ v + 12 ∧ u ≤ v + 9 ∧ (v' ≤ 640 → zg_l D' 17 8 = nL u) ∧ (∀ p k, p ≠ 18 → p ≠ 19 → zg_i D' p k = zg_i D p k) ∧ (∀ p k, p ≠ 17 → zg_l D' p k = zg_l D p k) ∧ (∀ k, k ≠ 7 → zg_i R' 0 k = zg_i R 0 k) ∧ (∀ p k, p ≠ 0 → p ≠ 4 → zg_i R' p k = zg_i R p k) ∧ (∀ p k, zg_l R' p k = zg_l R p k) := by
    intro ck x y D2 R2 v2 q1 q2 q3 q4 q5 q6 q7 q8 q9
    subst q7
    obtain ⟨D3, R3, d1, d2, d3, d4⟩ := w_lowG x x ck q1 q2 (fun _ => rfl) (by omega)
    obtain ⟨r1, r2⟩ := q8 D3 R3 d1 d2
    obtain ⟨f1, f2, f3, f4, f5⟩ := fr ck D3 R3 (q6.trans d4)
    refine ⟨D3, R3, v2 + ck, v + 1 - s + ck, r1, by rw [r2, y_add], d3, by omega, q9, by omega, fun q => ?_, f1, f2, f3, f4, f5⟩
    rw [d4.cl 17 8]
    exact q5 (by omega)
  have l0 : ∀ D2 : zx_D, ∃ D3 R3, g_Row_appendLowFirst_18 0 (nI 0) D2 = some D3 ∧ D3 = D2 ∧ ∀ R2, g_R_writeNumber 0 0 R2 = some R2 ∧ R3 = D2 := fun D2 => ⟨D2, D2, rfl, rfl, fun R2 => ⟨rfl, rfl⟩⟩
  rcases hx with rfl | rfl | rfl
  · obtain ⟨D2, R2, v2, b1, b2, b3, b4, b5, b6, b7⟩ := key 0 (by omega)
    refine fin 0 0 0 D2 R2 v2 (by omega) b3 b4 b5 b6 b7 rfl (fun D3 R3 k1 k2 => ⟨?_, ?_⟩) (by omega)
    · obtain ⟨D4, _, m1, m2, _⟩ := l0 D2
      rw [m1] at k1
      have e := Option.some.inj k1
      rw [← e, m2]
      have g5' : zg_i D2 17 5 = 0 := (b7.c 17 5 (by omega) (by omega)).trans g5
      have e0 : g_P_checkSize 0 D1 = some (nI 0) := rfl
      rw [g_Pkg_closeBlock, a1, o_sb, g5, e0, o_sb, g7, b1, o_sb, g5', if_pos (by decide), if_pos (by decide)]
    · rw [r_bk3, a2, o_sb, b2, o_sb, if_neg (by decide), o_sb, if_neg (by decide), sz]
      have k2 : g_R_writeNumber 0 0 R2 = some R3 := k2
      rw [k2, o_sb]
      rfl
  · obtain ⟨D2, R2, v2, b1, b2, b3, b4, b5, b6, b7⟩ := key 4 (by omega)
    obtain ⟨f1, f2, f3, f4, f5⟩ := fr 4 D2 R2 b7
    obtain ⟨s1, s2⟩ := s_s0 (D := D2) (R := R2) hn ((f3 1 (by omega)).trans nR) (fun i hi => by
      rw [f1 2 i (by omega) (by omega), f4 1 i (by omega) (by omega)]
      exact pB i hi)
    refine fin 4 (y_s4 (R2.1 1) 0 n) (y_s4 (R2.1 1) 0 n) D2 R2 v2 (by omega) b3 b4 b5 b6 b7 rfl (fun D3 R3 k1 k2 => ⟨?_, ?_⟩) (by omega)
    · have k1 : g_Row_appendLowFirst_18 (y_s4 (R2.1 1) 0 n) 4 D2 = some D3 := k1
      have g5' : zg_i D2 17 5 = 1 := (b7.c 17 5 (by omega) (by omega)).trans g5
      have e0 : g_P_checkSize 1 D1 = some (nI 4) := rfl
      rw [g_Pkg_closeBlock, a1, o_sb, g5, e0, o_sb, g7, b1, o_sb, g5', if_neg (by decide), f1 1 1 (by omega) (by omega), nC, s1, o_sb, k1, o_sb]
    · have k2 : g_R_writeNumber (y_s4 (R2.1 1) 0 n) 4 R2 = some R3 := k2
      rw [r_bk3, a2, o_sb, b2, o_sb, if_pos (by decide), if_neg (by decide), o_sb, if_pos (by decide), if_pos (by decide), s2, o_sb, k2, o_sb, sz]
      rfl
  · obtain ⟨D2, R2, v2, b1, b2, b3, b4, b5, b6, b7⟩ := key 8 (by omega)
    obtain ⟨f1, f2, f3, f4, f5⟩ := fr 8 D2 R2 b7
    obtain ⟨s1, s2⟩ := s_s1 (D := D2) (R := R2) hn ((f3 1 (by omega)).trans nR) (fun i hi => by
      rw [f1 2 i (by omega) (by omega), f4 1 i (by omega) (by omega)]
      exact pB i hi)
    refine fin 8 (y_s8 (R2.1 1) 0 n) (y_s8 (R2.1 1) 0 n) D2 R2 v2 (by omega) b3 b4 b5 b6 b7 rfl (fun D3 R3 k1 k2 => ⟨?_, ?_⟩) (by omega)
    · have k1 : g_Row_appendLowFirst_18 (y_s8 (R2.1 1) 0 n) 8 D2 = some D3 := k1
      have g5' : zg_i D2 17 5 = 4 := (b7.c 17 5 (by omega) (by omega)).trans g5
      have e0 : g_P_checkSize 4 D1 = some (nI 8) := rfl
      rw [g_Pkg_closeBlock, a1, o_sb, g5, e0, o_sb, g7, b1, o_sb, g5', if_pos (by decide), if_neg (by decide), f1 1 1 (by omega) (by omega), nC, s1, o_sb, k1, o_sb]
    · have k2 : g_R_writeNumber (y_s8 (R2.1 1) 0 n) 8 R2 = some R3 := k2
      rw [r_bk3, a2, o_sb, b2, o_sb, if_pos (by decide), if_pos (by decide), o_sb, if_pos (by decide), if_neg (by decide), s2, o_sb, k2, o_sb, sz]
      rfl
