theorem s_sumOf {n m g b s a : Nat} {D R : zx_D} (h : zS n m g b m a D R) (hs : s ≤ a) :
    ∃ v, g_P_sumFour_4 (nI s) (nI a) D = some v ∧
    ((a + 4 ≤ m ∧ g_Cur_expectSum 4 v D = some (zp_i D 12 3 (nI (a + 4))) ∧ g_R_sumOf (nI s) R = some (zp_i R 0 28 (nI (a + 4)))) ∨
    (∃ D' R', g_Cur_expectSum 4 v D = some D' ∧ g_R_sumOf (nI s) R = some R' ∧ zF n m g b D' R')) := by
  have hm := h.v.hm
  have hae := h.ae
  obtain ⟨v, e1, e2⟩ := s_sum h.v hs hae
  refine ⟨v, e1, ?_⟩
  have z4 : ¬ (1 : Int32) = 0 := by decide
  have ad : nI a + 4 = nI (a + 4) := y_add a 4
  rcases s_has h (k := 4) (by omega) with ⟨h4, p1, p2⟩ | ⟨h4, D', R', p1, p2, hF⟩
  · have p1 : g_Cur_has 4 D = some (1, D) := p1
    have p2 : g_R_has 4 R = some (1, R) := p2
    obtain ⟨w, r1, r2⟩ := s_num h.v (p := a) (c := 4) h4
    have r1 : g_Cur_lowFirst (nI a) 4 D = some w := r1
    have r2 : g_R_number (nI a) 4 R = some w := r2
    by_cases hw : w = v
    · exact Or.inl ⟨h4, by simp only [Option.bind_some, ↓reduceIte, not_true_eq_false, not_false_eq_true, y_1, g_Cur_expectSum, p1, z4, h.nC, r1, hw, ad], by simp only [Option.bind_some, ↓reduceIte, not_true_eq_false, not_false_eq_true, y_1, g_R_sumOf, p2, z4, h.nR, r2, e2, hw, ad]⟩
    · right
      have E1 : g_Cur_expectSum 4 v D = some (zp_i (zp_i D 12 4 (-4)) 12 5 (nI a)) := by simp only [Option.bind_some, ↓reduceIte, not_true_eq_false, not_false_eq_true, y_1, g_Cur_expectSum, p1, z4, h.nC, r1, hw, c_fail1 _ _ h.c]
      have E2 : g_R_sumOf (nI s) R = some (zp_i (zp_i (zp_i R 0 30 (nI a)) 0 29 (-4)) 0 28 (nI (a + 4))) := by
        have g1 : zg_i (zp_i (zp_i R 0 30 (nI a)) 0 29 (-4)) 0 28 = nI a := h.nR
        simp only [Option.bind_some, ↓reduceIte, not_true_eq_false, not_false_eq_true, y_1, g_R_sumOf, p2, z4, h.nR, r2, e2, hw, r_fail1 _ _ h.f, g1, ad]
      exact ⟨_, _, E1, E2, ⟨⟨h.v.hn, h.v.hm, h.v.pC, h.v.pR, h.v.pB, h.v.kC, h.v.kR, h.v.kB, h.v.sz, rfl, rfl, h.v.wa, h.v.lo, h.v.kr, h.v.kc, h.v.c0, h.v.cs, h.v.en, h.v.hg, h.v.gC, h.v.gR, h.v.gB, h.v.bR, h.v.bC, h.v.bS⟩, (by decide : (-4 : Int32) ≠ 0), a, hae, h.nC⟩⟩
  · have p1 : g_Cur_has 4 D = some (0, D') := p1
    have p2 : g_R_has 4 R = some (0, R') := p2
    exact Or.inr ⟨D', R', by simp only [Option.bind_some, ↓reduceIte, not_true_eq_false, not_false_eq_true, y_1, g_Cur_expectSum, p1], by simp only [Option.bind_some, ↓reduceIte, not_true_eq_false, not_false_eq_true, y_1, g_R_sumOf, p2], hF⟩
theorem s_two {n m g b a : Nat} {D R : zx_D} (h : zS n m g b m a D R) :
    (∃ x y : Nat, a + 2 ≤ m ∧ x < 256 ∧ y < 256 ∧ g_Cur_readTwo D = some (nI (x * 256 + y), zp_i D 12 3 (nI (a + 2))) ∧ (∀ t : Nat, t < 32 → g_R_length (nI t) R = some (nI (t * 65536 + x * 256 + y + 1), zp_i R 0 28 (nI (a + 2))))) ∨
    (∃ D' R', g_Cur_readTwo D = some (0, D') ∧ (∀ t, g_R_length t R = some (0, R')) ∧ zF n m g b D' R') := by
  have hm := h.v.hm
  have hae := h.ae
  have z4 : ¬ (1 : Int32) = 0 := by decide
  rcases s_has h (k := 2) (by omega) with ⟨h4, p1, p2⟩ | ⟨h4, D', R', p1, p2, hF⟩
  · have p1 : g_Cur_has 2 D = some (1, D) := p1
    have p2 : g_R_has 2 R = some (1, R) := p2
    obtain ⟨b1, x, hx, b2⟩ := h.v.kB a (by omega)
    obtain ⟨b3, y, hy, b4⟩ := h.v.kB (a + 1) (by omega)
    have z1 : zk_in (nI a) 640 = true := y_in (by omega) (by omega)
    have z2 : zn (nI a) = a := y_zn (by omega)
    have z1' : zk_in (nI (a + 1)) 640 = true := y_in (by omega) (by omega)
    have z2' : zn (nI (a + 1)) = a + 1 := y_zn (by omega)
    have a1 : nI (a + 2) - 2 = nI a := y_sub (a := a + 2) (b := 2) (by omega)
    have a2 : nI (a + 2) - 1 = nI (a + 1) := y_sub (a := a + 2) (b := 1) (by omega)
    have a3 : nI a + 2 = nI (a + 2) := y_add a 2
    have a4 : nI x * 256 + nI y = nI (x * 256 + y) := by rw [show nI x * 256 = nI (x * 256) from y_mul x 256, y_add]
    left
    refine ⟨x, y, h4, hx, hy, ?_, ?_⟩
    · simp only [Option.bind_some, ↓reduceIte, not_true_eq_false, not_false_eq_true, y_1, g_Cur_readTwo, p1, z4, h.nC, a1, a2, a3, z1, z2, z1', z2', b1, b2, b3, b4, a4]
    · intro t ht
      have sh : ((zo_shl (nI t) 16 ||| zo_shl (nI x) 8) ||| nI y) + 1 = nI (t * 65536 + x * 256 + y + 1) := by
        have e1 : zo_shl (nI t) 16 = nI (t * 65536) := by
          apply Int32.toBitVec_inj.mp
          have : (zo_shl (nI t) 16).toBitVec = BitVec.ofNat 32 t <<< 16 := rfl
          rw [this, y_ofNat_bv]
          apply BitVec.eq_of_toNat_eq
          rw [BitVec.toNat_shiftLeft, BitVec.toNat_ofNat, BitVec.toNat_ofNat, Nat.shiftLeft_eq, Nat.mod_eq_of_lt (show t < 2 ^ 32 by omega)]
        have e2 : zo_shl (nI x) 8 = nI (x * 256) := by
          apply Int32.toBitVec_inj.mp
          have : (zo_shl (nI x) 8).toBitVec = BitVec.ofNat 32 x <<< 8 := rfl
          rw [this, y_ofNat_bv]
          apply BitVec.eq_of_toNat_eq
          rw [BitVec.toNat_shiftLeft, BitVec.toNat_ofNat, BitVec.toNat_ofNat, Nat.shiftLeft_eq, Nat.mod_eq_of_lt (show x < 2 ^ 32 by omega)]
        have e3 : nI (t * 65536) ||| nI (x * 256) = nI (t * 65536 + x * 256) := by
          apply Int32.toBitVec_inj.mp
          rw [Int32.toBitVec_or, y_ofNat_bv, y_ofNat_bv, y_ofNat_bv]
          apply BitVec.eq_of_toNat_eq
          rw [BitVec.toNat_or, BitVec.toNat_ofNat, BitVec.toNat_ofNat, BitVec.toNat_ofNat, Nat.mod_eq_of_lt (by omega), Nat.mod_eq_of_lt (by omega), Nat.mod_eq_of_lt (by omega)]
          rw [show t * 65536 = 2 ^ 16 * t by omega]
          exact (Nat.two_pow_add_eq_or_of_lt (show x * 256 < 2 ^ 16 by omega) t).symm
        have e4 : nI (t * 65536 + x * 256) ||| nI y = nI (t * 65536 + x * 256 + y) := by
          apply Int32.toBitVec_inj.mp
          rw [Int32.toBitVec_or, y_ofNat_bv, y_ofNat_bv, y_ofNat_bv]
          apply BitVec.eq_of_toNat_eq
          rw [BitVec.toNat_or, BitVec.toNat_ofNat, BitVec.toNat_ofNat, BitVec.toNat_ofNat, Nat.mod_eq_of_lt (by omega), Nat.mod_eq_of_lt (by omega), Nat.mod_eq_of_lt (by omega)]
          rw [show t * 65536 + x * 256 = 2 ^ 8 * (t * 256 + x) by omega]
          exact (Nat.two_pow_add_eq_or_of_lt (show y < 2 ^ 8 by omega) _).symm
        rw [e1, e2, e3, e4, y_1]
      have sh := sh
      simp only [g_R_length, h.f, p2, z4, h.nR, a1, a2, a3, z1, z2, z1', z2', b2, b4, sh, Option.bind_some, ↓reduceIte, not_true_eq_false, not_false_eq_true]
  · have p1 : g_Cur_has 2 D = some (0, D') := p1
    have p2 : g_R_has 2 R = some (0, R') := p2
    exact Or.inr ⟨D', R', by simp only [Option.bind_some, ↓reduceIte, not_true_eq_false, not_false_eq_true, y_1, g_Cur_readTwo, p1], fun t => by simp only [Option.bind_some, ↓reduceIte, not_true_eq_false, not_false_eq_true, y_1, g_R_length, h.f, p2], hF⟩
theorem r_magic (R : zx_D) {i : Nat} (hi : i < 6) : g_R_magic (nI i) R = some (ro_f i) := by
  have : i = 0 ∨ i = 1 ∨ i = 2 ∨ i = 3 ∨ i = 4 ∨ i = 5 := by omega
  rcases this with rfl | rfl | rfl | rfl | rfl | rfl <;> rfl
theorem r_begin0 {R : zx_D} (hf : zg_i R 0 29 ≠ 0) : ∀ (j k i : Nat), i + j = 6 → j < k → g_R_begin_17 k (nI i) R = some R
  | 0, k + 1, i, hi, _ => by
    have e6 : (6 : Int32) ≤ nI i := (y_le (a := 6) (by omega) (by omega)).mpr (by omega)
    simp only [Option.bind_some, ↓reduceIte, not_true_eq_false, not_false_eq_true, y_1, g_R_begin_17, e6]
  | j + 1, k + 1, i, hi, hk => by
    have e6 : ¬ (6 : Int32) ≤ nI i := fun q => by have := (y_le (a := 6) (by omega) (by omega)).mp q; omega
    have z1 : zk_in (nI i) 640 = true := y_in (by omega) (by omega)
    by_cases hz : zg_i R 2 (zn (nI i)) = ro_f i
    · simp only [Option.bind_some, ↓reduceIte, not_true_eq_false, not_false_eq_true, y_1, g_R_begin_17, e6, z1, r_magic R (show i < 6 by omega), hz]
      exact r_begin0 hf j k (i + 1) (by omega) (by omega)
    · simp only [Option.bind_some, ↓reduceIte, not_true_eq_false, not_false_eq_true, y_1, g_R_begin_17, e6, z1, r_magic R (show i < 6 by omega), hz, r_fail0 _ _ hf]
      exact r_begin0 hf j k (i + 1) (by omega) (by omega)
def c_st2 (D : zx_D) : Option zx_D :=
  (g_Cur_has 2 (zp_i D 12 3 6)).bind fun q2 =>
      if ¬ q2.1 = 0 then
        if ¬ zg_i q2.2 4 (zn 6) = 0 then
          (g_Cur_fail (-3) 6 (zp_i q2.2 9 7 (zg_i q2.2 4 (zn 7)))).bind fun q3 =>
          some q3
        else
          (g_P_isSort (zg_i q2.2 4 (zn 7)) (zp_i q2.2 9 7 (zg_i q2.2 4 (zn 7)))).bind fun q4 =>
          if ¬ q4 = 0 then
            (g_P_sumFour_4 6 8 (zp_i (zp_i q2.2 9 7 (zg_i q2.2 4 (zn 7))) 12 3 ((zg_i q2.2 12 3) + 2))).bind fun q5 =>
            (g_Cur_expectSum 4 q5 (zp_i (zp_i q2.2 9 7 (zg_i q2.2 4 (zn 7))) 12 3 ((zg_i q2.2 12 3) + 2))).bind fun q6 =>
            some q6
          else
            (g_Cur_fail (-3) 6 (zp_i q2.2 9 7 (zg_i q2.2 4 (zn 7)))).bind fun q7 =>
            some q7
      else
        some q2.2
theorem s_magic {n m g b : Nat} {D R : zx_D} (h : zS n m g b m 0 D R) (h6 : 6 ≤ m) : ∀ (j k1 k2 i : Nat), i + j = 6 → j < k1 → j < k2 →
    (g_Unp_readStart_17 k1 (nI i) D = c_st2 D ∧ g_R_begin_17 k2 (nI i) R = some R) ∨
    (g_Unp_readStart_17 k1 (nI i) D = some (zp_i (zp_i D 12 4 (-3)) 12 5 0) ∧ g_R_begin_17 k2 (nI i) R = some (zp_i (zp_i R 0 30 0) 0 29 (-3)))
  | 0, k1 + 1, k2 + 1, i, hi, _, _ => by
    have e6 : (6 : Int32) ≤ nI i := (y_le (a := 6) (by omega) (by omega)).mpr (by omega)
    left
    constructor
    · rw [g_Unp_readStart_17, if_pos e6]
      rfl
    · simp only [Option.bind_some, ↓reduceIte, not_true_eq_false, not_false_eq_true, y_1, g_R_begin_17, e6]
  | j + 1, k1 + 1, k2 + 1, i, hi, h1, h2 => by
    have e6 : ¬ (6 : Int32) ≤ nI i := fun q => by have := (y_le (a := 6) (by omega) (by omega)).mp q; omega
    have z1 : zk_in (nI i) 640 = true := y_in (by omega) (by omega)
    have z2 : zn (nI i) = i := y_zn (by omega)
    have z3 : zk_in (nI i) 6 = true := y_in (by omega) (by omega)
    obtain ⟨b1, b2⟩ := h.v.kB i (by omega)
    by_cases hz : zg_i R 2 i = ro_f i
    · have E1 : g_Unp_readStart_17 (k1 + 1) (nI i) D = g_Unp_readStart_17 k1 (nI (i + 1)) D := by
        rw [g_Unp_readStart_17]
        simp only [Option.bind_some, ↓reduceIte, not_true_eq_false, not_false_eq_true, y_1, e6, z1, z2, z3, b1, hz]
      have E2 : g_R_begin_17 (k2 + 1) (nI i) R = g_R_begin_17 k2 (nI (i + 1)) R := by simp only [Option.bind_some, ↓reduceIte, not_true_eq_false, not_false_eq_true, y_1, g_R_begin_17, e6, z1, z2, r_magic R (show i < 6 by omega), hz]
      rw [E1, E2]
      exact s_magic h h6 j k1 k2 (i + 1) (by omega) (by omega) (by omega)
    · right
      constructor
      · rw [g_Unp_readStart_17]
        simp only [Option.bind_some, ↓reduceIte, not_true_eq_false, not_false_eq_true, y_1, e6, z1, z2, z3, b1, hz, c_fail1 _ _ h.c]
      · simp only [Option.bind_some, ↓reduceIte, not_true_eq_false, not_false_eq_true, y_1, g_R_begin_17, e6, z1, z2, r_magic R (show i < 6 by omega), hz, r_fail1 _ _ h.f]
        exact r_begin0 (R := zp_i (zp_i R 0 30 0) 0 29 (-3)) (by decide : (-3 : Int32) ≠ 0) j k2 (i + 1) (by omega) (by omega)
theorem s_start {n m g b : Nat} {D R : zx_D} (h : zS n m g b m 0 D (zp_i R 0 28 0)) :
    (∃ D' R', 12 ≤ m ∧ g_Unp_readStart D = some D' ∧ g_R_begin R = some R' ∧ zS n m g b m 12 D' R' ∧ zg_i D' 9 7 = zg_i R' 0 31 ∧ (zg_i R' 0 31 = 0 ∨ zg_i R' 0 31 = 1 ∨ zg_i R' 0 31 = 4)) ∨
    (∃ D' R', g_Unp_readStart D = some D' ∧ g_R_begin R = some R' ∧ zF n m g b D' R') := by
  have hm := h.v.hm
  have z4 : ¬ (1 : Int32) = 0 := by decide
  rcases s_has h (k := 6) (by omega) with ⟨h6, p1, p2⟩ | ⟨h6, D', R', p1, p2, hF⟩
  · have p1 : g_Cur_has 6 D = some (1, D) := p1
    have p2 : g_R_has 6 (zp_i R 0 28 0) = some (1, zp_i R 0 28 0) := p2
    generalize hR0 : zp_i R 0 28 0 = R0 at h p2
    rcases s_magic h (by omega) 6 10000 10000 0 rfl (by omega) (by omega) with ⟨m1, m2⟩ | ⟨m1, m2⟩
    · have m1 : g_Unp_readStart_17 10000 0 D = c_st2 D := m1
      have m2 : g_R_begin_17 10000 0 R0 = some R0 := m2
      have E1 : g_Unp_readStart D = c_st2 D := by simp only [Option.bind_some, ↓reduceIte, not_true_eq_false, not_false_eq_true, y_1, g_Unp_readStart, p1, z4, m1]
      have h1 := h.go (a' := 6) (by omega)
      rcases s_has h1 (k := 2) (by omega) with ⟨h8, p3, p4⟩ | ⟨h8, D', R', p3, p4, hF⟩
      · have p3 : g_Cur_has 2 (zp_i D 12 3 6) = some (1, zp_i D 12 3 6) := p3
        have p4 : g_R_has 2 (zp_i R0 0 28 6) = some (1, zp_i R0 0 28 6) := p4
        obtain ⟨b1, b2⟩ := h.v.kB 6 (by omega)
        obtain ⟨b3, b4⟩ := h.v.kB 7 (by omega)
        have c1 : zg_i (zp_i D 12 3 6) 4 (zn 6) = zg_i R0 2 6 := b1
        have c2 : zg_i (zp_i D 12 3 6) 4 (zn 7) = zg_i R0 2 7 := b3
        have c3 : zg_i (zp_i R0 0 28 6) 2 (zn 6) = zg_i R0 2 6 := rfl
        have c4 : zg_i (zp_i R0 0 28 6) 2 (zn 7) = zg_i R0 2 7 := rfl
        have f1 : zg_i (zp_i (zp_i D 12 3 6) 9 7 (zg_i R0 2 7)) 12 4 = 0 := h.c
        have f2 : zg_i (zp_i (zp_i R0 0 28 6) 0 31 (zg_i R0 2 7)) 0 29 = 0 := h.f
        have hFF : zF n m g b (zp_i (zp_i (zp_i (zp_i D 12 3 6) 9 7 (zg_i R0 2 7)) 12 4 (-3)) 12 5 6) (zp_i (zp_i (zp_i (zp_i (zp_i R0 0 28 6) 0 31 (zg_i R0 2 7)) 0 30 6) 0 29 (-3)) 0 28 8) := ⟨⟨h.v.hn, h.v.hm, h.v.pC, h.v.pR, h.v.pB, h.v.kC, h.v.kR, h.v.kB, h.v.sz, rfl, rfl, h.v.wa, h.v.lo, h.v.kr, h.v.kc, h.v.c0, h.v.cs, h.v.en, h.v.hg, h.v.gC, h.v.gR, h.v.gB, h.v.bR, h.v.bC, h.v.bS⟩, (by decide : (-3 : Int32) ≠ 0), 6, by omega, rfl⟩
        have f3 : ¬ zg_i (zp_i (zp_i (zp_i (zp_i R0 0 28 6) 0 31 (zg_i R0 2 7)) 0 30 6) 0 29 (-3)) 0 29 = 0 := (by decide : ¬ (-3 : Int32) = 0)
        by_cases hz : zg_i R0 2 6 = 0
        · generalize hs : zg_i R0 2 7 = s at *
          have key : (s = 0 ∨ s = 1 ∨ s = 4) ∨ ¬ (s = 0 ∨ s = 1 ∨ s = 4) := Classical.em _
          rcases key with hk | hk
          · have i1 : ∀ E, g_P_isSort s E = some 1 := by intro E; rcases hk with rfl | rfl | rfl <;> rfl
            have i2 : ∀ E, g_R_isSort s E = some 1 := by intro E; rcases hk with rfl | rfl | rfl <;> rfl
            have h2 : zS n m g b m 8 (zp_i (zp_i (zp_i D 12 3 6) 9 7 s) 12 3 8) (zp_i (zp_i (zp_i R0 0 28 6) 0 31 s) 0 28 8) := ⟨⟨h.v.hn, h.v.hm, h.v.pC, h.v.pR, h.v.pB, h.v.kC, h.v.kR, h.v.kB, h.v.sz, h.v.fa, h.v.wh, h.v.wa, h.v.lo, h.v.kr, h.v.kc, h.v.c0, h.v.cs, h.v.en, h.v.hg, h.v.gC, h.v.gR, h.v.gB, h.v.bR, h.v.bC, h.v.bS⟩, h.f, rfl, rfl, h.eC, by omega, Nat.le_refl _⟩
            have e8 : zg_i (zp_i D 12 3 6) 12 3 + 2 = 8 := rfl
            obtain ⟨v, v1, v2⟩ := s_sumOf h2 (s := 6) (by omega)
            have v1 : g_P_sumFour_4 6 8 (zp_i (zp_i (zp_i D 12 3 6) 9 7 s) 12 3 8) = some v := v1
            have E3 : c_st2 D = g_Cur_expectSum 4 v (zp_i (zp_i (zp_i D 12 3 6) 9 7 s) 12 3 8) := by
              unfold c_st2
              simp only [Option.bind_some, ↓reduceIte, not_true_eq_false, not_false_eq_true, y_1, p3, z4, c1, c2, hz, i1, e8, v1]
              cases g_Cur_expectSum 4 v (zp_i (zp_i (zp_i D 12 3 6) 9 7 s) 12 3 8) <;> rfl
            have E4 : g_R_begin R = g_R_sumOf 6 (zp_i (zp_i (zp_i R0 0 28 6) 0 31 s) 0 28 8) := by
              rw [g_R_begin, hR0, p2]
              simp only [Option.bind_some, ↓reduceIte, not_true_eq_false, not_false_eq_true, y_1, z4, m2, p4, c3, c4, hz, i2, f2]
              cases g_R_sumOf 6 (zp_i (zp_i (zp_i R0 0 28 6) 0 31 s) 0 28 8) <;> rfl
            rw [E1, E3, E4]
            rcases v2 with ⟨q1, q2, q3⟩ | ⟨D', R', q2, q3, q4⟩
            · exact Or.inl ⟨_, _, q1, q2, q3, h2.go q1, rfl, hk⟩
            · exact Or.inr ⟨D', R', q2, q3, q4⟩
          · have hk1 : ¬ s = 0 := fun q => hk (Or.inl q)
            have hk2 : ¬ s = 1 := fun q => hk (Or.inr (Or.inl q))
            have hk3 : ¬ s = 4 := fun q => hk (Or.inr (Or.inr q))
            have i1 : ∀ E, g_P_isSort s E = some 0 := by intro E; simp only [Option.bind_some, ↓reduceIte, not_true_eq_false, not_false_eq_true, y_1, g_P_isSort, hk1, hk2, hk3]
            have i2 : ∀ E, g_R_isSort s E = some 0 := by intro E; simp only [Option.bind_some, ↓reduceIte, not_true_eq_false, not_false_eq_true, y_1, g_R_isSort, hk1, hk2, hk3]
            right
            refine ⟨_, _, ?_, ?_, hFF⟩
            · rw [E1]
              unfold c_st2
              simp only [Option.bind_some, ↓reduceIte, not_true_eq_false, not_false_eq_true, y_1, p3, z4, c1, c2, hz, i1, c_fail1 _ _ f1]
            · rw [g_R_begin, hR0, p2]
              simp only [Option.bind_some, ↓reduceIte, not_true_eq_false, not_false_eq_true, y_1, z4, m2, p4, c3, c4, hz, i2, r_fail1 _ _ f2, f3]
        · right
          refine ⟨_, _, ?_, ?_, hFF⟩
          · rw [E1]
            unfold c_st2
            simp only [Option.bind_some, ↓reduceIte, not_true_eq_false, not_false_eq_true, y_1, p3, z4, c1, c2, hz, c_fail1 _ _ f1]
          · rw [g_R_begin, hR0, p2]
            simp only [Option.bind_some, ↓reduceIte, not_true_eq_false, not_false_eq_true, y_1, z4, m2, p4, c3, c4, hz, r_fail1 _ _ f2, f3]
      · have p3 : g_Cur_has 2 (zp_i D 12 3 6) = some (0, D') := p3
        have p4 : g_R_has 2 (zp_i R0 0 28 6) = some (0, R') := p4
        refine Or.inr ⟨D', R', ?_, ?_, hF⟩
        · rw [E1]
          unfold c_st2
          simp only [Option.bind_some, ↓reduceIte, not_true_eq_false, not_false_eq_true, y_1, p3]
        · rw [g_R_begin, hR0, p2]
          simp only [Option.bind_some, ↓reduceIte, not_true_eq_false, not_false_eq_true, y_1, z4, m2, p4]
    · right
      have m1 : g_Unp_readStart_17 10000 0 D = _ := m1
      have m2 : g_R_begin_17 10000 0 R0 = _ := m2
      have hFF : zF n m g b (zp_i (zp_i D 12 4 (-3)) 12 5 0) (zp_i (zp_i (zp_i R0 0 30 0) 0 29 (-3)) 0 28 6) := ⟨⟨h.v.hn, h.v.hm, h.v.pC, h.v.pR, h.v.pB, h.v.kC, h.v.kR, h.v.kB, h.v.sz, rfl, rfl, h.v.wa, h.v.lo, h.v.kr, h.v.kc, h.v.c0, h.v.cs, h.v.en, h.v.hg, h.v.gC, h.v.gR, h.v.gB, h.v.bR, h.v.bC, h.v.bS⟩, (by decide : (-3 : Int32) ≠ 0), 0, by omega, h.nC⟩
      refine ⟨_, _, by simp only [Option.bind_some, ↓reduceIte, not_true_eq_false, not_false_eq_true, y_1, g_Unp_readStart, p1, z4, m1], ?_, hFF⟩
      rw [g_R_begin, hR0, p2]
      simp only [Option.bind_some, ↓reduceIte, not_true_eq_false, not_false_eq_true, y_1, z4, m2, r_has0 _ hFF.f]
  · have p1 : g_Cur_has 6 D = some (0, D') := p1
    have p2 : g_R_has 6 (zp_i R 0 28 0) = some (0, R') := p2
    exact Or.inr ⟨D', R', by simp only [Option.bind_some, ↓reduceIte, not_true_eq_false, not_false_eq_true, y_1, g_Unp_readStart, p1], by simp only [Option.bind_some, ↓reduceIte, not_true_eq_false, not_false_eq_true, y_1, g_R_begin, p2], hF⟩
