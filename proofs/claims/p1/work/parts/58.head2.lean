def r_blk3 (x1 x9 x10 : Int32) (s1 s2 : Int64) (q23 : zx_D) : Option zx_D :=
  ((
    if s1 < 0 then
      if s2 < 0 then
        some q23
      else
        if s2 = (((zg_i q23 0 5) - x10)).toInt64 then
          some q23
        else
          (g_R_fail (-6) x1 q23).bind fun q24 =>
          some q24
    else
      if ¬ s1 = (((zg_i q23 0 28) - x9)).toInt64 then
        (g_R_fail (-6) x1 q23).bind fun q25 =>
        some q25
      else
        if s2 < 0 then
          some q23
        else
          if s2 = (((zg_i q23 0 5) - x10)).toInt64 then
            some q23
          else
            (g_R_fail (-6) x1 q23).bind fun q26 =>
            some q26
  ) : Option (zx_D)).bind fun q27 =>
  ((
    if ¬ zg_i q27 0 29 = 0 then
      some q27
    else
      (g_R_zeros x1 q27).bind fun q28 =>
      some q28
  ) : Option (zx_D)).bind fun q29 =>
  ((
    if ¬ zg_i q29 0 31 = 0 then
      if ¬ zg_i q29 0 31 = 1 then
        some 8
      else
        some 4
    else
      some 0
  ) : Option (Int32)).bind fun q30 =>
  if ¬ zg_i q29 0 29 = 0 then
    some q29
  else
    (g_R_has q30 q29).bind fun q31 =>
    if ¬ q31.1 = 0 then
      if ¬ zg_i q31.2 0 31 = 1 then
        g_R_block_493 x10 ((zg_i q27 0 28) - x1) q30 q31.2
      else
        (g_R_number (zg_i q31.2 0 28) 4 q31.2).bind fun q35 =>
        (g_R_fourOfMade x10 q31.2).bind fun q36 =>
        if ¬ q35 = q36 then
          (g_R_fail (-4) (zg_i q31.2 0 28) q31.2).bind fun q37 =>
          some q37
        else
          g_R_block_493 x10 ((zg_i q27 0 28) - x1) q30 q31.2
    else
      some q31.2
def r_blk2 (x1 x9 x10 : Int32) (s1 s2 : Int64) (q21 : Int32) (E : zx_D) : Option zx_D :=
  (g_R_block_324 x1 s1 s2 x9 x10 10000 q21 E).bind fun q23 => r_blk3 x1 x9 x10 s1 s2 q23
def r_n1 (e kd pl : Int32) (E0 : zx_D) : Option (Int64 × zx_D) :=
  if kd &&& 64 = 0 then some (-1, E0) else (g_R_vli e (-3) E0).bind fun q4 => if ¬ q4.1 = 0 then some (q4.1, q4.2) else (g_R_fail (-3) pl q4.2).bind fun q5 => some (q4.1, q5)
def r_n2 (e kd : Int32) (E0 : zx_D) : Option (Int64 × zx_D) :=
  if kd &&& 128 = 0 then some (-1, E0) else if ¬ zg_i E0 0 29 = 0 then some (-1, E0) else (g_R_vli e (-3) E0).bind fun q7 => some (q7.1, q7.2)
def r_hd3 (x1 e : Int32) (s1 s2 : Int64) (E : zx_D) : Option zx_D :=
  (r_hbx 33 e E).bind fun q11 => (r_hbx 1 e q11).bind fun q14 => (r_hb40 e q14).bind fun q17 =>
  (g_R_block_243 x1 e s1 s2 10000 q17).bind fun q20 =>
  ((if ¬ zg_i q20 0 29 = 0 then some 0 else some 1) : Option Int32).bind fun q21 =>
  r_blk2 x1 (e + 4) (zg_i q20 0 5) s1 s2 q21 (zp_i (zp_i (zp_i q20 0 28 (e + 4)) 0 35 0) 0 36 1)
theorem r_block {n m g b a c kc : Nat} {D R : zx_D} (h : zS n m g b m a D R) (hc1 : 1 ≤ c) (hc : c < 256) (hb : zg_i R 2 a = nI c) (hs : a + 4 * (c + 1) ≤ m) {v : Int64} (e2 : g_R_fourOfPacked (nI a) (nI (a + 4 * c)) R = some v) (e1 : g_R_number (nI (a + 4 * c)) 4 R = some v) (hk : zg_i R 2 (a + 1) = nI kc) (hk2 : kc < 256) (h63 : nI kc &&& 63 = 0) :
    g_R_block R = (r_n1 (nI (a + 4 * c)) (nI kc) (nI (a + 2)) (zp_i R 0 28 (nI (a + 2)))).bind fun q6 => (r_n2 (nI (a + 4 * c)) (nI kc) q6.2).bind fun q8 => r_hd3 (nI a) (nI (a + 4 * c)) q6.1 q8.1 q8.2 := by
  have hm := h.v.hm
  have z1 : zk_in (nI a) 640 = true := y_in (by omega) (by omega)
  have z2 : zn (nI a) = a := y_zn (by omega)
  have z1' : zk_in (nI (a + 1)) 640 = true := y_in (by omega) (by omega)
  have z2' : zn (nI (a + 1)) = a + 1 := y_zn (by omega)
  have z4 : ¬ (1 : Int32) = 0 := by decide
  have m1 : 4 * nI c = nI (4 * c) := y_mul 4 c
  have m2 : 4 * nI (c + 1) = nI (4 * (c + 1)) := y_mul 4 (c + 1)
  have p := r_has1 h (k := 4 * (c + 1)) hs
  simp only [g_R_block, h.nR, z1, z2, hb, y_1, m1, m2, y_add, p, z4, e1, e2, z1', z2', hk, h63, y_pp, Option.bind_some, ↓reduceIte, not_true_eq_false, not_false_eq_true, r_n1, r_n2, r_hd3, r_hbx, r_hb40, r_blk2, Option.bind_assoc]
  rfl
theorem y_and63 {a : Nat} (ha : a < 256) : nI a &&& 63 = nI (a % 64) := by
  apply Int32.toBitVec_inj.mp
  rw [Int32.toBitVec_and, y_ofNat_bv, y_ofNat_bv]
  apply BitVec.eq_of_toNat_eq
  rw [BitVec.toNat_and, BitVec.toNat_ofNat, BitVec.toNat_ofNat, Nat.mod_eq_of_lt (by omega), Nat.mod_eq_of_lt (by omega)]
  exact Nat.and_two_pow_sub_one_eq_mod a 6
theorem s_nums {n m g b e a kc : Nat} {D R : zx_D} (h : zS n m g b e a D R) (he : e < m) (ha : a < e) (hk : zg_i R 2 a = nI kc) (hk2 : kc < 256) (h64 : kc % 64 = 0) :
    (∃ s1 s2 a' D' E1 E2, a + 1 ≤ a' ∧ a' ≤ e ∧ g_Unp_readHeadNumbers D = some D' ∧ r_n1 (nI e) (nI kc) (nI (a + 1)) (zp_i R 0 28 (nI (a + 1))) = some (s1, E1) ∧ r_n2 (nI e) (nI kc) E1 = some (s2, E2) ∧ zS n m g b e a' D' E2 ∧ zg_l D' 9 10 = s1 ∧ zg_l D' 9 11 = s2 ∧ (s1 = -1 ∨ y_P s1) ∧ (s2 = -1 ∨ y_P s2) ∧ (∀ k, zg_i D' 9 k = zg_i D 9 k) ∧ zg_i E2 0 31 = zg_i R 0 31) ∨
    (∃ s1 s2 D' E1 E2, g_Unp_readHeadNumbers D = some D' ∧ r_n1 (nI e) (nI kc) (nI (a + 1)) (zp_i R 0 28 (nI (a + 1))) = some (s1, E1) ∧ r_n2 (nI e) (nI kc) E1 = some (s2, E2) ∧ zF n m g b D' E2) := by
  have hm := h.v.hm
  have z1 : zk_in (nI a) 640 = true := y_in (by omega) (by omega)
  have z2 : zn (nI a) = a := y_zn (by omega)
  have z4 : ¬ (1 : Int32) = 0 := by decide
  obtain ⟨b1, b2⟩ := h.v.kB a (by omega)
  have h0 : zS n m g b e a (zp_l (zp_l D 9 10 (-1)) 9 11 (-1)) R := ⟨⟨h.v.hn, h.v.hm, h.v.pC, h.v.pR, h.v.pB, h.v.kC, h.v.kR, h.v.kB, h.v.sz, h.v.fa, h.v.wh, h.v.wa, h.v.lo, h.v.kr, h.v.kc, h.v.c0, h.v.cs, h.v.en, h.v.hg, h.v.gC, h.v.gR, h.v.gB, h.v.bR, h.v.bC, h.v.bS⟩, h.f, h.nC, h.nR, h.eC, h.ae, h.em⟩
  have fr0 : ∀ k, zg_i (zp_l (zp_l D 9 10 (-1)) 9 11 (-1)) 9 k = zg_i D 9 k := fun k => rfl
  have l10 : zg_l (zp_l (zp_l D 9 10 (-1)) 9 11 (-1)) 9 10 = -1 := rfl
  have l11 : zg_l (zp_l (zp_l D 9 10 (-1)) 9 11 (-1)) 9 11 = -1 := rfl
  have b0 : zg_i (zp_l (zp_l D 9 10 (-1)) 9 11 (-1)) 4 a = nI kc := by rw [← hk]; exact b1
  have hh : g_Cur_has 1 (zp_l (zp_l D 9 10 (-1)) 9 11 (-1)) = some (1, _) := c_has1 h0 (k := 1) (by omega)
  unfold g_Unp_readHeadNumbers
  generalize zp_l (zp_l D 9 10 (-1)) 9 11 (-1) = D0 at *
  have rm : zo_rem (nI kc) 64 = 0 := by
    rw [show (64 : Int32) = nI 64 from rfl, y_rem (by omega) (by omega), h64]
    rfl
  have h1 := h0.go (a' := a + 1) (by omega)
  have pl : zg_i D0 12 3 = nI a := h0.nC
  have second : ∀ (a1 : Nat) (D1 E1 : zx_D) (s1 : Int64), a + 1 ≤ a1 → zS n m g b e a1 D1 E1 → zg_l D1 9 10 = s1 → zg_l D1 9 11 = -1 → (s1 = -1 ∨ y_P s1) → (∀ k, zg_i D1 9 k = zg_i D 9 k) → zg_i E1 0 31 = zg_i R 0 31 →
      (∃ s2 a' D' E2, a + 1 ≤ a' ∧ a' ≤ e ∧ ((if nI kc &&& 128 = 0 then some D1 else (g_Cur_readNumber D1).bind fun q7 => some (zp_l q7.2 9 11 q7.1)) : Option zx_D) = some D' ∧ r_n2 (nI e) (nI kc) E1 = some (s2, E2) ∧ zS n m g b e a' D' E2 ∧ zg_l D' 9 10 = s1 ∧ zg_l D' 9 11 = s2 ∧ (s2 = -1 ∨ y_P s2) ∧ (∀ k, zg_i D' 9 k = zg_i D 9 k) ∧ zg_i E2 0 31 = zg_i R 0 31) ∨
      (∃ s2 D' E2, ((if nI kc &&& 128 = 0 then some D1 else (g_Cur_readNumber D1).bind fun q7 => some (zp_l q7.2 9 11 q7.1)) : Option zx_D) = some D' ∧ r_n2 (nI e) (nI kc) E1 = some (s2, E2) ∧ zF n m g b D' E2) := by
    intro a1 D1 E1 s1 q1 q2 q3 q4 q5 q6 q7
    by_cases h128 : nI kc &&& 128 = 0
    · left
      exact ⟨-1, a1, D1, E1, q1, q2.ae, by rw [if_pos h128], by rw [r_n2, if_pos h128], q2, q3, q4, Or.inl rfl, q6, q7⟩
    · rcases s_vli q2 (-3) (by rw [if_neg (by omega)]) with ⟨v, a', r1, r2, r3, r4, r5⟩ | ⟨u, u', D', R', r4, r5, r6⟩
      · left
        refine ⟨v, a', zp_l (zp_i D1 12 3 (nI a')) 9 11 v, zp_i E1 0 28 (nI a'), by omega, r2, by rw [if_neg h128, r4]; simp only [Option.bind_some, ↓reduceIte, not_true_eq_false, not_false_eq_true, y_1], by rw [r_n2, if_neg h128, if_neg (fun q => q q2.f), r5]; simp only [Option.bind_some, ↓reduceIte, not_true_eq_false, not_false_eq_true, y_1], ?_, q3, rfl, Or.inr r3, q6, q7⟩
        have q8 := q2.go (a' := a') r2
        exact ⟨⟨q8.v.hn, q8.v.hm, q8.v.pC, q8.v.pR, q8.v.pB, q8.v.kC, q8.v.kR, q8.v.kB, q8.v.sz, q8.v.fa, q8.v.wh, q8.v.wa, q8.v.lo, q8.v.kr, q8.v.kc, q8.v.c0, q8.v.cs, q8.v.en, q8.v.hg, q8.v.gC, q8.v.gR, q8.v.gB, q8.v.bR, q8.v.bC, q8.v.bS⟩, q8.f, q8.nC, q8.nR, q8.eC, q8.ae, q8.em⟩
      · right
        refine ⟨u', zp_l D' 9 11 u, R', by rw [if_neg h128, r4]; simp only [Option.bind_some, ↓reduceIte, not_true_eq_false, not_false_eq_true, y_1], by rw [r_n2, if_neg h128, if_neg (fun q => q q2.f), r5]; simp only [Option.bind_some, ↓reduceIte, not_true_eq_false, not_false_eq_true, y_1], ⟨⟨r6.v.hn, r6.v.hm, r6.v.pC, r6.v.pR, r6.v.pB, r6.v.kC, r6.v.kR, r6.v.kB, r6.v.sz, r6.v.fa, r6.v.wh, r6.v.wa, r6.v.lo, r6.v.kr, r6.v.kc, r6.v.c0, r6.v.cs, r6.v.en, r6.v.hg, r6.v.gC, r6.v.gR, r6.v.gB, r6.v.bR, r6.v.bC, r6.v.bS⟩, r6.f, r6.nx⟩⟩
  have dead : ∀ (D1 E1 : zx_D), zF n m g b D1 E1 → ∃ s2 D' E2, ((if nI kc &&& 128 = 0 then some D1 else (g_Cur_readNumber D1).bind fun q7 => some (zp_l q7.2 9 11 q7.1)) : Option zx_D) = some D' ∧ r_n2 (nI e) (nI kc) E1 = some (s2, E2) ∧ zF n m g b D' E2 := by
    intro D1 E1 q
    by_cases h128 : nI kc &&& 128 = 0
    · exact ⟨-1, D1, E1, by rw [if_pos h128], by rw [r_n2, if_pos h128], q⟩
    · refine ⟨-1, zp_l D1 9 11 (-1), E1, by rw [if_neg h128, c_num0 q.c]; simp only [Option.bind_some, ↓reduceIte, not_true_eq_false, not_false_eq_true, y_1], by rw [r_n2, if_neg h128, if_pos q.f], ⟨⟨q.v.hn, q.v.hm, q.v.pC, q.v.pR, q.v.pB, q.v.kC, q.v.kR, q.v.kB, q.v.sz, q.v.fa, q.v.wh, q.v.wa, q.v.lo, q.v.kr, q.v.kc, q.v.c0, q.v.cs, q.v.en, q.v.hg, q.v.gC, q.v.gR, q.v.gB, q.v.bR, q.v.bC, q.v.bS⟩, q.f, q.nx⟩⟩
  by_cases h64' : nI kc &&& 64 = 0
  · have hn : ¬ zg_l (zp_i D0 12 3 (nI (a + 1))) 9 10 = 0 := by
      rw [show zg_l (zp_i D0 12 3 (nI (a + 1))) 9 10 = -1 from l10]
      decide
    rcases second (a + 1) _ _ (-1) (Nat.le_refl _) h1 l10 l11 (Or.inl rfl) fr0 rfl with ⟨s2, a', D', E2, r1, r2, r3, r4, r5, r6, r7, r8, r9, r10⟩ | ⟨s2, D', E2, r3, r4, r5⟩
    · exact Or.inl ⟨-1, s2, a', D', _, E2, r1, r2, by simp only [Option.bind_some, ↓reduceIte, not_true_eq_false, not_false_eq_true, y_1, hh, z4, pl, z1, z2, b0, rm, h64', hn]; exact r3, by rw [r_n1, if_pos h64'], r4, r5, r6, r7, Or.inl rfl, r8, r9, r10⟩
    · exact Or.inr ⟨-1, s2, D', _, E2, by simp only [Option.bind_some, ↓reduceIte, not_true_eq_false, not_false_eq_true, y_1, hh, z4, pl, z1, z2, b0, rm, h64', hn]; exact r3, by rw [r_n1, if_pos h64'], r4, r5⟩
  · rcases s_vli h1 (-3) (by rw [if_neg (by omega)]) with ⟨v, a', r1, r2, r3, r4, r5⟩ | ⟨u, u', D', R', r4, r5, r6⟩
    · have h2 := h1.go (a' := a') r2
      by_cases hv : v = 0
      · right
        have hz : zg_l (zp_l (zp_i (zp_i D0 12 3 (nI (a + 1))) 12 3 (nI a')) 9 10 v) 9 10 = 0 := hv
        have f1 : zg_i (zp_l (zp_i (zp_i D0 12 3 (nI (a + 1))) 12 3 (nI a')) 9 10 v) 12 4 = 0 := h2.c
        have f2 : zg_i (zp_i (zp_i R 0 28 (nI (a + 1))) 0 28 (nI a')) 0 29 = 0 := h2.f
        have h3 : zS n m g b e a' (zp_l (zp_i (zp_i D0 12 3 (nI (a + 1))) 12 3 (nI a')) 9 10 v) (zp_i (zp_i R 0 28 (nI (a + 1))) 0 28 (nI a')) := ⟨⟨h2.v.hn, h2.v.hm, h2.v.pC, h2.v.pR, h2.v.pB, h2.v.kC, h2.v.kR, h2.v.kB, h2.v.sz, h2.v.fa, h2.v.wh, h2.v.wa, h2.v.lo, h2.v.kr, h2.v.kc, h2.v.c0, h2.v.cs, h2.v.en, h2.v.hg, h2.v.gC, h2.v.gR, h2.v.gB, h2.v.bR, h2.v.bC, h2.v.bS⟩, h2.f, h2.nC, h2.nR, h2.eC, h2.ae, h2.em⟩
        obtain ⟨s2, D', E2, t1, t2, t3⟩ := dead _ _ (h3.fail (w := -3) (nI (a + 1)) (by decide))
        refine ⟨v, s2, D', _, E2, ?_, ?_, t2, t3⟩
        · simp only [Option.bind_some, ↓reduceIte, not_true_eq_false, not_false_eq_true, y_1, hh, z4, pl, z1, z2, b0, rm, h64', r4, hz, c_fail1 _ _ f1]
          exact t1
        · simp only [Option.bind_some, ↓reduceIte, not_true_eq_false, not_false_eq_true, y_1, r_n1, h64', r5, hv, r_fail1 _ _ f2]
      · have hz : ¬ zg_l (zp_l (zp_i (zp_i D0 12 3 (nI (a + 1))) 12 3 (nI a')) 9 10 v) 9 10 = 0 := hv
        have h3 : zS n m g b e a' (zp_l (zp_i (zp_i D0 12 3 (nI (a + 1))) 12 3 (nI a')) 9 10 v) (zp_i (zp_i R 0 28 (nI (a + 1))) 0 28 (nI a')) := ⟨⟨h2.v.hn, h2.v.hm, h2.v.pC, h2.v.pR, h2.v.pB, h2.v.kC, h2.v.kR, h2.v.kB, h2.v.sz, h2.v.fa, h2.v.wh, h2.v.wa, h2.v.lo, h2.v.kr, h2.v.kc, h2.v.c0, h2.v.cs, h2.v.en, h2.v.hg, h2.v.gC, h2.v.gR, h2.v.gB, h2.v.bR, h2.v.bC, h2.v.bS⟩, h2.f, h2.nC, h2.nR, h2.eC, h2.ae, h2.em⟩
        rcases second a' _ _ v (by omega) h3 rfl l11 (Or.inr r3) fr0 rfl with ⟨s2, a2, D', E2, t1, t2, t3, t4, t5, t6, t7, t8, t9, t10⟩ | ⟨s2, D', E2, t3, t4, t5⟩
        · refine Or.inl ⟨v, s2, a2, D', _, E2, t1, t2, ?_, ?_, t4, t5, t6, t7, Or.inr r3, t8, t9, t10⟩
          · simp only [Option.bind_some, ↓reduceIte, not_true_eq_false, not_false_eq_true, y_1, hh, z4, pl, z1, z2, b0, rm, h64', r4, hz]
            exact t3
          · simp only [Option.bind_some, ↓reduceIte, not_true_eq_false, not_false_eq_true, y_1, r_n1, h64', r5, hv]
        · refine Or.inr ⟨v, s2, D', _, E2, ?_, ?_, t4, t5⟩
          · simp only [Option.bind_some, ↓reduceIte, not_true_eq_false, not_false_eq_true, y_1, hh, z4, pl, z1, z2, b0, rm, h64', r4, hz]
            exact t3
          · simp only [Option.bind_some, ↓reduceIte, not_true_eq_false, not_false_eq_true, y_1, r_n1, h64', r5, hv]
    · right
      have h6 : zF n m g b (zp_l D' 9 10 u) R' := ⟨⟨r6.v.hn, r6.v.hm, r6.v.pC, r6.v.pR, r6.v.pB, r6.v.kC, r6.v.kR, r6.v.kB, r6.v.sz, r6.v.fa, r6.v.wh, r6.v.wa, r6.v.lo, r6.v.kr, r6.v.kc, r6.v.c0, r6.v.cs, r6.v.en, r6.v.hg, r6.v.gC, r6.v.gR, r6.v.gB, r6.v.bR, r6.v.bC, r6.v.bS⟩, r6.f, r6.nx⟩
      obtain ⟨s2, D2, E2, t1, t2, t3⟩ := dead _ _ h6
      refine ⟨u', s2, D2, R', E2, ?_, ?_, t2, t3⟩
      · have hq : (g_Cur_fail (-3) (nI a + 1) (zp_l D' 9 10 u)) = some (zp_l D' 9 10 u) := c_fail0 _ _ h6.c
        by_cases hz : zg_l (zp_l D' 9 10 u) 9 10 = 0
        · simp only [hh, z4, pl, z1, z2, b0, rm, h64', y_1, r4, hz, Option.bind_some, ↓reduceIte, not_true_eq_false, not_false_eq_true]
          rw [← y_1, hq]
          exact t1
        · simp only [Option.bind_some, ↓reduceIte, not_true_eq_false, not_false_eq_true, y_1, hh, z4, pl, z1, z2, b0, rm, h64', r4, hz]
          exact t1
      · by_cases hz : u' = 0
        · simp only [Option.bind_some, ↓reduceIte, not_true_eq_false, not_false_eq_true, y_1, r_n1, h64', r5, hz, r_fail0 _ _ r6.f]
        · simp only [Option.bind_some, ↓reduceIte, not_true_eq_false, not_false_eq_true, y_1, r_n1, h64', r5, hz]
