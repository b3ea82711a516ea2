abbrev zN (n L sz r lc lp pb st : Nat) (D R : zx_D) : Prop := Nonempty ((∀ i, i < n → zg_i D 2 i = zg_i R 1 i ∧ y_B (zg_i R 1 i)) ∧ (n ≤ 400) ∧ (zg_i D 20 2 = 0) ∧ (zg_i R 0 27 = 0) ∧ (6 ≤ L) ∧ (L ≤ 400) ∧ (zg_i D 20 5 = nI (L - 1)) ∧ (zg_i R 0 26 = nI L) ∧ (5 ≤ sz) ∧ (sz ≤ L - 1) ∧ (zg_i D 20 4 = nI sz) ∧ (zg_i R 0 25 = nI sz) ∧ (∀ i, i < sz → zg_i D 21 i = zg_i R 6 i ∧ y_B (zg_i R 6 i)) ∧ (∀ i, sz ≤ i → i < 400 → zg_i D 21 i = 0) ∧ (2 ^ 17 ≤ r) ∧ (r < 2 ^ 32) ∧ (zg_l D 20 1 = nL r) ∧ (zg_l R 0 17 = nL r) ∧ (∃ Z, zM lc lp pb st Z D R))
theorem zN.pB {n L sz r lc lp pb st : Nat} {D R : zx_D} (h : zN n L sz r lc lp pb st D R) : ∀ i, i < n → zg_i D 2 i = zg_i R 1 i ∧ y_B (zg_i R 1 i) := h.elim fun q => q.1
theorem zN.hn {n L sz r lc lp pb st : Nat} {D R : zx_D} (h : zN n L sz r lc lp pb st D R) : n ≤ 400 := h.elim fun q => q.2.1
theorem zN.bC {n L sz r lc lp pb st : Nat} {D R : zx_D} (h : zN n L sz r lc lp pb st D R) : zg_i D 20 2 = 0 := h.elim fun q => q.2.2.1
theorem zN.bR {n L sz r lc lp pb st : Nat} {D R : zx_D} (h : zN n L sz r lc lp pb st D R) : zg_i R 0 27 = 0 := h.elim fun q => q.2.2.2.1
theorem zN.hL1 {n L sz r lc lp pb st : Nat} {D R : zx_D} (h : zN n L sz r lc lp pb st D R) : 6 ≤ L := h.elim fun q => q.2.2.2.2.1
theorem zN.hL {n L sz r lc lp pb st : Nat} {D R : zx_D} (h : zN n L sz r lc lp pb st D R) : L ≤ 400 := h.elim fun q => q.2.2.2.2.2.1
theorem zN.mC {n L sz r lc lp pb st : Nat} {D R : zx_D} (h : zN n L sz r lc lp pb st D R) : zg_i D 20 5 = nI (L - 1) := h.elim fun q => q.2.2.2.2.2.2.1
theorem zN.mR {n L sz r lc lp pb st : Nat} {D R : zx_D} (h : zN n L sz r lc lp pb st D R) : zg_i R 0 26 = nI L := h.elim fun q => q.2.2.2.2.2.2.2.1
theorem zN.hs1 {n L sz r lc lp pb st : Nat} {D R : zx_D} (h : zN n L sz r lc lp pb st D R) : 5 ≤ sz := h.elim fun q => q.2.2.2.2.2.2.2.2.1
theorem zN.hs2 {n L sz r lc lp pb st : Nat} {D R : zx_D} (h : zN n L sz r lc lp pb st D R) : sz ≤ L - 1 := h.elim fun q => q.2.2.2.2.2.2.2.2.2.1
theorem zN.sC {n L sz r lc lp pb st : Nat} {D R : zx_D} (h : zN n L sz r lc lp pb st D R) : zg_i D 20 4 = nI sz := h.elim fun q => q.2.2.2.2.2.2.2.2.2.2.1
theorem zN.sR {n L sz r lc lp pb st : Nat} {D R : zx_D} (h : zN n L sz r lc lp pb st D R) : zg_i R 0 25 = nI sz := h.elim fun q => q.2.2.2.2.2.2.2.2.2.2.2.1
theorem zN.low {n L sz r lc lp pb st : Nat} {D R : zx_D} (h : zN n L sz r lc lp pb st D R) : ∀ i, i < sz → zg_i D 21 i = zg_i R 6 i ∧ y_B (zg_i R 6 i) := h.elim fun q => q.2.2.2.2.2.2.2.2.2.2.2.2.1
theorem zN.zer {n L sz r lc lp pb st : Nat} {D R : zx_D} (h : zN n L sz r lc lp pb st D R) : ∀ i, sz ≤ i → i < 400 → zg_i D 21 i = 0 := h.elim fun q => q.2.2.2.2.2.2.2.2.2.2.2.2.2.1
theorem zN.hr1 {n L sz r lc lp pb st : Nat} {D R : zx_D} (h : zN n L sz r lc lp pb st D R) : 2 ^ 17 ≤ r := h.elim fun q => q.2.2.2.2.2.2.2.2.2.2.2.2.2.2.1
theorem zN.hr2 {n L sz r lc lp pb st : Nat} {D R : zx_D} (h : zN n L sz r lc lp pb st D R) : r < 2 ^ 32 := h.elim fun q => q.2.2.2.2.2.2.2.2.2.2.2.2.2.2.2.1
theorem zN.rC {n L sz r lc lp pb st : Nat} {D R : zx_D} (h : zN n L sz r lc lp pb st D R) : zg_l D 20 1 = nL r := h.elim fun q => q.2.2.2.2.2.2.2.2.2.2.2.2.2.2.2.2.1
theorem zN.rR {n L sz r lc lp pb st : Nat} {D R : zx_D} (h : zN n L sz r lc lp pb st D R) : zg_l R 0 17 = nL r := h.elim fun q => q.2.2.2.2.2.2.2.2.2.2.2.2.2.2.2.2.2.1
theorem zN.md {n L sz r lc lp pb st : Nat} {D R : zx_D} (h : zN n L sz r lc lp pb st D R) : ∃ Z, zM lc lp pb st Z D R := h.elim fun q => q.2.2.2.2.2.2.2.2.2.2.2.2.2.2.2.2.2.2
abbrev zL (D R : zx_D) : Prop := Nonempty ((¬ zg_i D 20 2 = 0) ∧ (¬ zg_i R 0 27 = 0))
theorem zL.bC {D R : zx_D} (h : zL D R) : ¬ zg_i D 20 2 = 0 := h.elim fun q => q.1
theorem zL.bR {D R : zx_D} (h : zL D R) : ¬ zg_i R 0 27 = 0 := h.elim fun q => q.2
abbrev zH (D D' R R' : zx_D) : Prop := Nonempty ((∀ p k, p ≠ 6 → p ≠ 20 → p ≠ 21 → zg_i D' p k = zg_i D p k) ∧ (∀ p k, p ≠ 20 → zg_l D' p k = zg_l D p k) ∧ (∀ k, k ≠ 25 → k ≠ 27 → zg_i R' 0 k = zg_i R 0 k) ∧ (∀ p k, p ≠ 0 → p ≠ 5 → p ≠ 6 → zg_i R' p k = zg_i R p k) ∧ (∀ k, k ≠ 17 → zg_l R' 0 k = zg_l R 0 k))
theorem zH.c {D D' R R' : zx_D} (h : zH D D' R R') : ∀ p k, p ≠ 6 → p ≠ 20 → p ≠ 21 → zg_i D' p k = zg_i D p k := h.elim fun q => q.1
theorem zH.cl {D D' R R' : zx_D} (h : zH D D' R R') : ∀ p k, p ≠ 20 → zg_l D' p k = zg_l D p k := h.elim fun q => q.2.1
theorem zH.r {D D' R R' : zx_D} (h : zH D D' R R') : ∀ k, k ≠ 25 → k ≠ 27 → zg_i R' 0 k = zg_i R 0 k := h.elim fun q => q.2.2.1
theorem zH.rp {D D' R R' : zx_D} (h : zH D D' R R') : ∀ p k, p ≠ 0 → p ≠ 5 → p ≠ 6 → zg_i R' p k = zg_i R p k := h.elim fun q => q.2.2.2.1
theorem zH.rl {D D' R R' : zx_D} (h : zH D D' R R') : ∀ k, k ≠ 17 → zg_l R' 0 k = zg_l R 0 k := h.elim fun q => q.2.2.2.2
theorem zH_rfl {D R : zx_D} : zH D D R R := ⟨fun _ _ _ _ _ => Eq.refl _, fun _ _ _ => Eq.refl _, fun _ _ _ => Eq.refl _, fun _ _ _ _ _ => Eq.refl _, fun _ _ => Eq.refl _⟩
theorem zH.trans {D D' D'' R R' R'' : zx_D} (h1 : zH D D' R R') (h2 : zH D' D'' R' R'') : zH D D'' R R'' :=
  ⟨fun p k a1 a2 a3 => (h2.c p k a1 a2 a3).trans (h1.c p k a1 a2 a3), fun p k a1 => (h2.cl p k a1).trans (h1.cl p k a1), fun k a1 a2 => (h2.r k a1 a2).trans (h1.r k a1 a2), fun p k a1 a2 a3 => (h2.rp p k a1 a2 a3).trans (h1.rp p k a1 a2 a3), fun k a1 => (h2.rl k a1).trans (h1.rl k a1)⟩
theorem v_lshr8 {t : Nat} (h : t < 2 ^ 63) : zo_lshr (nL t) 8 = nL (t / 256) := by
  apply Int64.toBitVec_inj.mp
  have e1 : (zo_lshr (nL t) 8).toBitVec = (BitVec.ofNat 64 t).sshiftRight 8 := rfl
  have e2 : (nL (t / 256)).toBitVec = BitVec.ofNat 64 (t / 256) := rfl
  have hm : (BitVec.ofNat 64 t).msb = false := by
    rw [BitVec.msb_eq_decide, BitVec.toNat_ofNat, Nat.mod_eq_of_lt (by omega)]
    exact decide_eq_false (by omega)
  rw [e1, e2, BitVec.sshiftRight_eq_of_msb_false hm]
  apply BitVec.eq_of_toNat_eq
  rw [BitVec.toNat_ushiftRight, BitVec.toNat_ofNat, BitVec.toNat_ofNat, Nat.shiftRight_eq_div_pow, Nat.mod_eq_of_lt (by omega)]
  have : t / 2 ^ 8 ≤ t := Nat.div_le_self _ _
  rw [Nat.mod_eq_of_lt (by omega)]
theorem v_lushr8 {t : Nat} (h : t < 2 ^ 63) : zo_lushr (nL t) 8 = nL (t / 256) := v_shr (s := 8) h rfl
theorem y_b0 (x : Int64) : x.toInt32 &&& 255 = (x &&& 255).toInt32 := by
  refine y_byte_aux x x x 0 (by omega) ?_ ?_
  · simp
  · simp
theorem s_raise {sz : Nat} (hsz : sz ≤ 400) : ∀ (i k1 k2 c : Nat) (D R : zx_D), i ≤ sz → i < k1 → i < k2 → c < 2 ^ 40 → zg_i R 0 27 = 0 → (∀ q, q < sz → zg_i D 21 q = zg_i R 6 q ∧ y_B (zg_i R 6 q)) →
    ∃ D' R', g_Snk_raise_10 k1 (nL c) (nI i - 1) D = some D' ∧ g_R_grow_10 k2 (nL c) (nI i - 1) R = some R' ∧ (∀ q, q < sz → zg_i D' 21 q = zg_i R' 6 q ∧ y_B (zg_i R' 6 q)) ∧ (∀ q, sz ≤ q → zg_i D' 21 q = zg_i D 21 q) ∧ (∀ p q, p ≠ 21 → zg_i D' p q = zg_i D p q) ∧ (∀ p q, zg_l D' p q = zg_l D p q) ∧ (∀ p q, p ≠ 6 → zg_i R' p q = zg_i R p q) ∧ (∀ p q, zg_l R' p q = zg_l R p q)
  | 0, k1 + 1, k2 + 1, c, D, R, _, _, _, _, _, hl => by
    have e : nI 0 - 1 < 0 := by decide
    exact ⟨D, R, by rw [g_Snk_raise_10, if_pos e], by rw [g_R_grow_10, if_pos e], hl, fun _ _ => rfl, fun _ _ _ => rfl, fun _ _ => rfl, fun _ _ _ => rfl, fun _ _ => rfl⟩
  | i + 1, k1 + 1, k2 + 1, c, D, R, hi, h1, h2, hc, h27, hl => by
    have e1 : nI (i + 1) - 1 = nI i := y_sub (a := i + 1) (b := 1) (by omega)
    have e0 : ¬ nI i < 0 := fun q => by have := (y_lt (b := 0) (by omega) (by omega)).mp q; omega
    have e2 : nI i + (-1) = nI i - 1 := (Int32.sub_eq_add_neg _ _).symm
    rw [g_Snk_raise_10, g_R_grow_10, e1, if_neg e0, if_neg e0]
    by_cases t : c = 0
    · subst t
      exact ⟨D, R, if_pos rfl, if_pos (by decide), hl, fun _ _ => rfl, fun _ _ _ => rfl, fun _ _ => rfl, fun _ _ _ => rfl, fun _ _ => rfl⟩
    · have c0 : ¬ nL c = 0 := fun q => t ((v_eq (b := 0) (by omega) (by omega)).mp q)
      have c1 : ¬ nL c ≤ 0 := fun q => by have := (v_le (b := 0) (by omega) (by omega)).mp q; omega
      obtain ⟨l1, y, hy, l2⟩ := hl i (by omega)
      have z1 : zk_in (nI i) 400 = true := y_in (by omega) (by omega)
      have z2 : zn (nI i) = i := y_zn (by omega)
      rw [if_neg c0, if_neg c1, if_neg (show ¬ ¬ zg_i R 0 27 = 0 from fun q => q h27), if_pos z1, if_pos z1, if_pos z1, if_pos z1, z2, l1, l2, v_of (by omega), v_add, v_lushr8 (by omega), v_lshr8 (by omega), e2, y_b0]
      obtain ⟨b, hb⟩ : ∃ b, b = (nL (c + y) &&& 255).toInt32 := ⟨_, rfl⟩
      have hbB : y_B b := by rw [hb, ← y_b0]; exact y_B_of
      rw [← hb]
      obtain ⟨D', R', a1, a2, a3, a4, a5, a6, a7, a8⟩ := s_raise hsz i k1 k2 ((c + y) / 256) (zp_i D 21 i b) (zp_i R 6 i b) (by omega) (by omega) (by omega) (by omega) h27 (fun q hq => by
        rw [y_gi, y_gi]
        by_cases u : q = i
        · rw [if_pos ⟨rfl, u⟩, if_pos ⟨rfl, u⟩]
          exact ⟨rfl, hbB⟩
        · rw [if_neg (fun v => u v.2), if_neg (fun v => u v.2)]
          exact hl q hq)
      refine ⟨D', R', a1, a2, a3, fun q hq => ?_, fun p q hp => ?_, a6, fun p q hp => ?_, a8⟩
      · rw [a4 q hq, y_gi, if_neg (by omega)]
      · rw [a5 p q hp, y_gi, if_neg (fun v => hp v.1)]
      · rw [a7 p q hp, y_gi, if_neg (fun v => hp v.1)]
theorem s_shiftO {n L sz r lc lp pb st : Nat} {D R : zx_D} (h : zN n L sz r lc lp pb st D R) :
    (∃ sz' r' D' R', g_Snk_shift D = some D' ∧ g_R_shiftOut R = some R' ∧ zN n L sz' r' lc lp pb st D' R' ∧ 2 ^ 24 ≤ r' ∧ zH D D' R R') ∨
    (∃ D' R', g_Snk_shift D = some D' ∧ g_R_shiftOut R = some R' ∧ zL D' R' ∧ zH D D' R R') := by
  have hr2 := h.hr2
  have hL := h.hL
  have hL1 := h.hL1
  have hs1 := h.hs1
  have hs2 := h.hs2
  have bC := h.bC
  have bR := h.bR
  obtain ⟨Z, hM⟩ := h.md
  by_cases hr : r < 2 ^ 24
  · have l1 : nL r < 16777216 := (v_lt (b := 16777216) (by omega) (by omega)).mpr (by omega)
    have e1 : zo_lshl (nL r) 8 = nL (256 * r) := v_sh8 (by omega)
    have e3 : nL r * 256 = nL (256 * r) := by rw [show (256 : Int64) = nL 256 from rfl, v_mul, Nat.mul_comm]
    by_cases hx : sz < L - 1
    · left
      have l2 : nI sz < nI (L - 1) := (y_lt (by omega) (by omega)).mpr hx
      have l3 : nI (sz + 1) < nI L := (y_lt (by omega) (by omega)).mpr (by omega)
      have z1 : zk_in (nI sz) 400 = true := y_in (by omega) (by omega)
      have z2 : zn (nI sz) = sz := y_zn (by omega)
      have hN : zN n L (sz + 1) (256 * r) lc lp pb st (zp_i (zp_l D 20 1 (nL (256 * r))) 20 4 (nI (sz + 1))) (zp_i (zp_i (zp_i (zp_l R 0 17 (nL (256 * r))) 0 27 0) 6 sz 0) 0 25 (nI (sz + 1))) := by
        refine ⟨h.pB, h.hn, h.bC, rfl, hL1, hL, h.mC, h.mR, by omega, by omega, rfl, rfl, fun i hi => ?_, fun i h1 h2 => h.zer i (by omega) h2, by have := h.hr1; omega, by omega, rfl, rfl, Z, ⟨hM.hc, hM.hp, hM.lcC, hM.lcR, hM.lpC, hM.lpR, hM.pbC, hM.pbR, hM.hs, hM.stC, hM.stR, hM.ch⟩⟩
        have e : zg_i (zp_i (zp_i (zp_i (zp_l R 0 17 (nL (256 * r))) 0 27 0) 6 sz 0) 0 25 (nI (sz + 1))) 6 i = if i = sz then 0 else zg_i R 6 i := by
          rw [y_gi, if_neg (by omega), y_gi]
          by_cases u : i = sz
          · rw [if_pos ⟨rfl, u⟩, if_pos u]
          · rw [if_neg (fun v => u v.2), if_neg u]
            rfl
        rw [e]
        by_cases u : i = sz
        · rw [if_pos u, u]
          exact ⟨h.zer sz (Nat.le_refl _) (by omega), 0, by omega, rfl⟩
        · rw [if_neg u]
          exact h.low i (by omega)
      refine ⟨sz + 1, 256 * r, _, _, ?_, ?_, hN, by have := h.hr1; omega, ⟨fun p k a1 a2 a3 => ?_, fun p k a1 => ?_, fun k a1 a2 => ?_, fun p k a1 a2 a3 => ?_, fun k a1 => ?_⟩⟩
      · simp only [g_Snk_shift, bC, h.rC, l1, h.sC, h.mC, l2, e1, y_1, ↓reduceIte, not_true_eq_false]
      · simp only [g_R_shiftOut, h.rR, l1, bR, h.sR, h.mR, l3, e3, z1, z2, y_1, o_sb, ↓reduceIte, not_true_eq_false, true_or]
      · simp [y_gi, y_il, a2]
      · simp [y_gl, y_li, a1]
      · simp [y_gi, y_il, a1, a2]
      · simp [y_gi, y_il, a1, a3]
      · simp [y_gl, y_li, a1]
    · right
      have l2 : ¬ nI sz < nI (L - 1) := fun q => hx ((y_lt (by omega) (by omega)).mp q)
      have l3 : ¬ nI (sz + 1) < nI L := by
        intro q
        have := (y_lt (by omega) (by omega)).mp q
        omega
      have z1 : ¬ (1 : Int32) = 0 := by decide
      refine ⟨zp_i D 20 2 1, zp_i (zp_l R 0 17 (nL (256 * r))) 0 27 1, ?_, ?_, ⟨z1, z1⟩, ⟨fun p k a1 a2 a3 => ?_, fun p k a1 => rfl, fun k a1 a2 => ?_, fun p k a1 a2 a3 => ?_, fun k a1 => ?_⟩⟩
      · simp only [g_Snk_shift, bC, h.rC, l1, h.sC, h.mC, l2, ↓reduceIte, not_true_eq_false]
      · simp only [g_R_shiftOut, h.rR, l1, bR, h.sR, h.mR, y_1, l3, e3, z1, o_sb, ↓reduceIte, not_true_eq_false, not_false_eq_true, or_true]
      · simp [y_gi, a2]
      · simp [y_gi, y_il, a2]
      · simp [y_gi, y_il, a1]
      · simp [y_gl, y_li, a1]
  · left
    have l1 : ¬ nL r < 16777216 := fun q => by have := (v_lt (b := 16777216) (by omega) (by omega)).mp q; omega
    exact ⟨sz, r, D, R, by simp only [g_Snk_shift, bC, h.rC, l1, ↓reduceIte, not_true_eq_false], by simp only [g_R_shiftOut, h.rR, l1, ↓reduceIte], h, by omega, zH_rfl⟩
theorem c_learnK0 {D : zx_D} {k p : Nat} (hk : k < 8196) (hp : p ≤ 2017) (h : zg_i D 6 k = nI p) : g_Lin_learn_20 (nI k) 0 D = some (zp_i D 6 k (nI (p + (2048 - p) / 32))) := c_learn0 hk hp h
theorem c_learnK1 {D : zx_D} {k p : Nat} (hk : k < 8196) (hp : p ≤ 2017) (h : zg_i D 6 k = nI p) : g_Lin_learn_20 (nI k) 1 D = some (zp_i D 6 k (nI (p - p / 32))) := c_learn1 hk hp h
theorem p_bit {n L sz r lc lp pb st k x : Nat} {D R : zx_D} (h : zN n L sz r lc lp pb st D R) (hk : k < 2052 + 768 * 2 ^ (lc + lp)) (hx : x ≤ 1) :
    (∃ sz' r' D' R', g_Snk_codeBit (nI k) (nI x) D = some (nI x, D') ∧ g_R_put (nI (zf k)) (nI x) R = some R' ∧ zN n L sz' r' lc lp pb st D' R' ∧ zH D D' R R') ∨
    (∃ D' R', g_Snk_codeBit (nI k) (nI x) D = some (nI x, D') ∧ g_R_put (nI (zf k)) (nI x) R = some R' ∧ zL D' R' ∧ zH D D' R R') := by
  have z1 : ¬ (1 : Int32) = 0 := by decide
  have z01 : ¬ (0 : Int32) = 1 := by decide
  obtain ⟨Z0, hM0⟩ := h.md
  have hl := pw_le hM0.hc
  have hk8 : k < 8196 := by omega
  have hkf : zf k < 8328 := zf_lt hk8
  have k1 : zk_in (nI k) 8196 = true := y_in hk8 (by omega)
  have k2 : zn (nI k) = k := y_zn (by omega)
  have k1' : zk_in (nI (zf k)) 8328 = true := y_in hkf (by omega)
  have k2' : zn (nI (zf k)) = zf k := y_zn (by omega)
  rcases s_shiftO h with ⟨sz1, r1, D1, R1, s1, s2, h1, hr24, q0⟩ | ⟨D1, R1, s1, s2, hX, q0⟩
  · left
    obtain ⟨Z, hM⟩ := h1.md
    obtain ⟨p, hp1, hp2, pC, pR, hz⟩ := hM.ch k hk
    have hr2 := h1.hr2
    have b1C := h1.bC
    obtain ⟨q, hq⟩ : ∃ q, q = r1 / 2048 := ⟨_, rfl⟩
    obtain ⟨bd, hbd⟩ : ∃ bd, bd = q * p := ⟨_, rfl⟩
    have bb1 : q * 31 ≤ bd := by rw [hbd]; exact Nat.mul_le_mul_left _ hp1
    have bb2 : bd ≤ q * 2017 := by rw [hbd]; exact Nat.mul_le_mul_left _ hp2
    have bb4 : 8192 ≤ q := by omega
    have ebC : zo_lushr (nL r1) 11 * (nI p).toInt64 = nL bd := by rw [v_sh11 (by omega), v_of (by omega), v_mul, ← hq, ← hbd]
    have ebR : nL r1 / 2048 * (nI p).toInt64 = nL bd := by rw [show (2048 : Int64) = nL 2048 from rfl, v_div (by omega) (by omega), v_of (by omega), v_mul, ← hq, ← hbd]
    have hx01 : x = 0 ∨ x = 1 := by omega
    rcases hx01 with rfl | rfl
    · obtain ⟨p1, p2, p3⟩ := lrn0 hp1 hp2 hz
      have hM' := zM_put hM hk (Z k + 1) p1 p2 p3
      have lC : g_Lin_learn_20 (nI k) 0 (zp_l D1 20 1 (nL bd)) = some (zp_i (zp_l D1 20 1 (nL bd)) 6 k (nI (p + (2048 - p) / 32))) := c_learnK0 hk8 hp2 pC
      have lR := r_learn0 hkf hp2 pR
      refine ⟨sz1, bd, zp_i (zp_l D1 20 1 (nL bd)) 6 k (nI (p + (2048 - p) / 32)), zp_l (zp_i R1 5 (zf k) (nI (p + (2048 - p) / 32))) 0 17 (nL bd), ?_, ?_, ⟨h1.pB, h1.hn, h1.bC, h1.bR, h1.hL1, h1.hL, h1.mC, h1.mR, h1.hs1, h1.hs2, h1.sC, h1.sR, h1.low, h1.zer, by omega, by omega, rfl, rfl, _, ⟨hM'.hc, hM'.hp, hM'.lcC, hM'.lcR, hM'.lpC, hM'.lpR, hM'.pbC, hM'.pbR, hM'.hs, hM'.stC, hM'.stR, hM'.ch⟩⟩, q0.trans ⟨fun p k a1 a2 a3 => ?_, fun p k a1 => ?_, fun k a1 a2 => ?_, fun p k a1 a2 a3 => ?_, fun k a1 => ?_⟩⟩
      · have n0 : ¬ ¬ nI 0 = 0 := fun t => t rfl
        have lC : g_Lin_learn_20 (nI k) (nI 0) (zp_l D1 20 1 (nL bd)) = _ := lC
        simp only [g_Snk_codeBit, s1, b1C, k1, n0, h1.rC, k2, pC, ebC, lC, o_sb, ↓reduceIte]
      · have n1 : ¬ nI 0 = 1 := z01
        simp only [g_R_put, s2, k1', n1, lR, h1.rR, k2', pR, ebR, o_sb, ↓reduceIte, not_false_eq_true]
      · simp [y_gi, y_il, a1]
      · simp [y_gl, y_li, a1]
      · simp [y_gi, y_il]
      · simp [y_gi, y_il, a2]
      · simp [y_gl, y_li, a1]
    · obtain ⟨p1, p2, p3⟩ := lrn1 hp1 hp2 hz
      have hM' := zM_put hM hk (Z k) p1 p2 p3
      have lR := r_learn1 hkf hp2 pR
      have hs400 : sz1 ≤ 400 := by have := h1.hs2; have := h1.hL; omega
      obtain ⟨D2, R2, a1, a2, a3, a4, a5, a6, a7, a8⟩ := s_raise hs400 sz1 10000 10000 bd D1 (zp_i R1 5 (zf k) (nI (p - p / 32))) (Nat.le_refl _) (by omega) (by omega) (by omega) h1.bR h1.low
      have pC2 : zg_i (zp_l D2 20 1 (nL (r1 - bd))) 6 k = nI p := (a5 6 k (by omega)).trans pC
      have lC : g_Lin_learn_20 (nI k) 1 (zp_l D2 20 1 (nL (r1 - bd))) = some (zp_i (zp_l D2 20 1 (nL (r1 - bd))) 6 k (nI (p - p / 32))) := c_learnK1 hk8 hp2 pC2
      have rC2 : zg_l D2 20 1 = nL r1 := (a6 20 1).trans h1.rC
      have rR2 : zg_l R2 0 17 = nL r1 := (a8 0 17).trans h1.rR
      have er : nL r1 - nL bd = nL (r1 - bd) := v_sub (by omega)
      have hM2 : zM lc lp pb st (va_up Z k (Z k)) (zp_i (zp_l D2 20 1 (nL (r1 - bd))) 6 k (nI (p - p / 32))) (zp_l R2 0 17 (nL (r1 - bd))) := by
        refine zM_fr hM' (fun j => ?_) (fun j _ _ => ?_) (fun j _ _ => ?_) (fun j => ?_)
        · rw [y_gi, y_gi]
          by_cases u : j = k
          · rw [if_pos ⟨rfl, u⟩, if_pos ⟨rfl, u⟩]
          · rw [if_neg (fun v => u v.2), if_neg (fun v => u v.2)]
            exact a5 6 j (by omega)
        · rw [y_gi, if_neg (by omega), y_gi, if_neg (by omega)]
          exact a5 7 j (by omega)
        · exact a7 0 j (by omega)
        · exact a7 5 j (by omega)
      refine ⟨sz1, r1 - bd, zp_i (zp_l D2 20 1 (nL (r1 - bd))) 6 k (nI (p - p / 32)), zp_l R2 0 17 (nL (r1 - bd)), ?_, ?_, ⟨fun i hi => ?_, h1.hn, ?_, ?_, h1.hL1, h1.hL, ?_, ?_, h1.hs1, h1.hs2, ?_, ?_, ?_, fun i u1 u2 => ?_, by omega, by omega, rfl, rfl, _, hM2⟩, q0.trans ⟨fun p k b1 b2 b3 => ?_, fun p k b1 => ?_, fun k b1 b2 => ?_, fun p k b1 b2 b3 => ?_, fun k b1 => ?_⟩⟩
      · have n0 : ¬ nI 1 = 0 := z1
        have lC : g_Lin_learn_20 (nI k) (nI 1) (zp_l D2 20 1 (nL (r1 - bd))) = _ := lC
        simp only [g_Snk_codeBit, s1, b1C, k1, n0, h1.rC, k2, pC, ebC, g_Snk_raise, h1.sC, a1, rC2, er, lC, o_sb, ↓reduceIte, not_false_eq_true]
      · have n1 : ¬ ¬ nI 1 = 1 := fun t => t rfl
        have sR1 : zg_i (zp_i R1 5 (zf k) (nI (p - p / 32))) 0 25 = nI sz1 := h1.sR
        simp only [g_R_put, s2, k1', n1, lR, h1.rR, k2', pR, ebR, g_R_grow, sR1, a2, rR2, er, o_sb, ↓reduceIte]
      · have e1 : zg_i (zp_i (zp_l D2 20 1 (nL (r1 - bd))) 6 k (nI (p - p / 32))) 2 i = zg_i D1 2 i := a5 2 i (by omega)
        have e2 : zg_i (zp_l R2 0 17 (nL (r1 - bd))) 1 i = zg_i R1 1 i := a7 1 i (by omega)
        rw [e1, e2]
        exact h1.pB i hi
      · exact (a5 20 2 (by omega)).trans h1.bC
      · exact (a7 0 27 (by omega)).trans h1.bR
      · exact (a5 20 5 (by omega)).trans h1.mC
      · exact (a7 0 26 (by omega)).trans h1.mR
      · exact (a5 20 4 (by omega)).trans h1.sC
      · exact (a7 0 25 (by omega)).trans h1.sR
      · exact a3
      · exact (a4 i u1).trans (h1.zer i u1 u2)
      · rw [y_gi, if_neg (fun v => b1 v.1)]
        exact a5 p k b3
      · rw [y_li]
        simp [y_gl, b1, a6]
      · exact a7 0 k (by omega)
      · exact (a7 p k b3).trans (by rw [y_gi, if_neg (fun v => b2 v.1)])
      · simp [y_gl, y_li, b1, a8]
  · right
    have z3 := hX.bC
    have hx01 : x = 0 ∨ x = 1 := by omega
    have lrn : ∀ y : Int32, ∃ R2, g_R_learn (nI (zf k)) y R1 = some R2 ∧ (∀ p j, p ≠ 5 → zg_i R2 p j = zg_i R1 p j) ∧ (∀ p j, zg_l R2 p j = zg_l R1 p j) := by
      intro y
      rw [g_R_learn, if_pos k1', k2', if_pos k1', if_pos k1']
      by_cases u : y = 0
      · exact ⟨_, if_pos u, fun p j hp => by rw [y_gi, if_neg (fun v => hp v.1)], fun _ _ => rfl⟩
      · exact ⟨_, if_neg u, fun p j hp => by rw [y_gi, if_neg (fun v => hp v.1)], fun _ _ => rfl⟩
    have grw : ∀ (y : Int64) (R2 : zx_D), ¬ zg_i R2 0 27 = 0 → g_R_grow y R2 = some R2 := by
      intro y R2 h27
      have : g_R_grow_10 10000 y ((zg_i R2 0 25) - 1) R2 = some R2 := by
        rw [g_R_grow_10]
        by_cases u : (zg_i R2 0 25) - 1 < 0
        · rw [if_pos u]
        · rw [if_neg u]
          by_cases w : y ≤ 0
          · rw [if_pos w]
          · rw [if_neg w, if_pos h27]
      rw [g_R_grow, this, o_sb]
    rcases hx01 with rfl | rfl
    · obtain ⟨R2, u1, u2, u3⟩ := lrn 0
      have n1 : ¬ nI 0 = 1 := z01
      refine ⟨D1, zp_l R2 0 17 (((zg_l R1 0 17) / 2048) * (((zg_i R1 5 (zf k))).toInt64)), ?_, ?_, ⟨z3, ?_⟩, q0.trans ⟨fun p k a1 a2 a3 => rfl, fun p k a1 => rfl, fun k a1 a2 => u2 0 k (by omega), fun p k a1 a2 a3 => u2 p k a2, fun k a1 => ?_⟩⟩
      · simp only [g_Snk_codeBit, s1, z3, o_sb, ↓reduceIte]
      · simp only [g_R_put, s2, k1', k2', n1, u1, o_sb, ↓reduceIte, not_false_eq_true]
      · exact fun t => hX.bR ((u2 0 27 (by omega)).symm.trans t)
      · simp [y_gl, a1, u3]
    · obtain ⟨R2, u1, u2, u3⟩ := lrn 1
      have n1 : ¬ ¬ nI 1 = 1 := fun t => t rfl
      have h27 : ¬ zg_i R2 0 27 = 0 := fun t => hX.bR ((u2 0 27 (by omega)).symm.trans t)
      refine ⟨D1, zp_l R2 0 17 ((zg_l R2 0 17) - ((zg_l R1 0 17) / 2048) * (((zg_i R1 5 (zf k))).toInt64)), ?_, ?_, ⟨z3, h27⟩, q0.trans ⟨fun p k a1 a2 a3 => rfl, fun p k a1 => rfl, fun k a1 a2 => u2 0 k (by omega), fun p k a1 a2 a3 => u2 p k a2, fun k a1 => ?_⟩⟩
      · simp only [g_Snk_codeBit, s1, z3, o_sb, ↓reduceIte]
      · simp only [g_R_put, s2, k1', k2', n1, u1, grw _ R2 h27, o_sb, ↓reduceIte]
      · simp [y_gl, a1, u3]
