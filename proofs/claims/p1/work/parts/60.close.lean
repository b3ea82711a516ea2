theorem s_sumG {n m g b : Nat} {D R : zx_D} (h : zV n m g b D R) {p : Nat} (hp : p ≤ g) : ∃ v, g_P_sumFour_11 (nI p) (nI g) D = some v ∧ g_R_fourOfMade (nI p) R = some v := by
  have hg := h.hg
  refine ⟨_, y_sum4_11 D (by omega) hp, ?_⟩
  rw [y_sumM R (by omega) hp h.gR (fun i hi => (h.gB i (by omega)).2)]
  rw [y_s4_congr (f := D.1 11) (g := R.1 3) (fun i _ hi => (h.gB i (by omega)).1)]
theorem s_sumG8 {n m g b : Nat} {D R : zx_D} (h : zV n m g b D R) {p : Nat} (hp : p ≤ g) : ∃ v, g_P_sumEight_11 (nI p) (nI g) D = some v ∧ g_R_eightOfMade (nI p) R = some v := by
  have hg := h.hg
  refine ⟨_, y_sum8_11 D (by omega) hp, ?_⟩
  rw [y_sumM8 R (by omega) hp h.gR]
  rw [y_s8_congr (f := D.1 11) (g := R.1 3) (fun i _ hi => (h.gB i (by omega)).1)]
theorem s_es {n m g b a k : Nat} {D R : zx_D} (h : zS n m g b m a D R) (hk : k ≤ 8) (v : Int64) :
    (∃ w, a + k ≤ m ∧ g_R_has (nI k) R = some (1, R) ∧ g_R_number (nI a) (nI k) R = some w ∧ g_Cur_expectSum (nI k) v D = if w = v then some (zp_i D 12 3 (nI (a + k))) else some (zp_i (zp_i D 12 4 (-4)) 12 5 (nI a))) ∨
    (∃ D' R', g_Cur_expectSum (nI k) v D = some D' ∧ g_R_has (nI k) R = some (0, R') ∧ zF n m g b D' R') := by
  have hm := h.v.hm
  have z4 : ¬ (1 : Int32) = 0 := by decide
  rcases s_has h (k := k) (by omega) with ⟨hs, p1, p2⟩ | ⟨hs, D', R', p1, p2, hF⟩
  · obtain ⟨w, r1, r2⟩ := s_num h.v (p := a) (c := k) hs
    refine Or.inl ⟨w, hs, p2, r2, ?_⟩
    by_cases hw : w = v
    · simp only [Option.bind_some, ↓reduceIte, not_true_eq_false, not_false_eq_true, y_1, g_Cur_expectSum, p1, z4, h.nC, r1, hw, y_add]
    · simp only [Option.bind_some, ↓reduceIte, not_true_eq_false, not_false_eq_true, y_1, g_Cur_expectSum, p1, z4, h.nC, r1, hw, c_fail1 _ _ h.c]
  · exact Or.inr ⟨D', R', by simp only [Option.bind_some, ↓reduceIte, not_true_eq_false, not_false_eq_true, y_1, g_Cur_expectSum, p1], p2, hF⟩
theorem s_told {n m g b a g0 : Nat} {D R : zx_D} (h : zS n m g b m a D R) (x : Int32) (hb : b < 40) (hg0 : g0 ≤ g) (k : Nat) (hk : a + k ≤ m) :
    zS n m g (b + 1) m (a + k) (zp_i (zp_l (zp_l (zp_i D 12 3 (nI (a + k))) 15 b x.toInt64) 16 b (nI (g - g0)).toInt64) 14 10 (nI (b + 1))) (zp_i (zp_i (zp_i (zp_i (zp_i R 0 28 (nI (a + k))) 7 b x) 8 b (nI (g - g0))) 0 32 (nI (b + 1))) 9 10 (nI (b + 1))) := by
  have hv := h.v
  refine ⟨⟨hv.hn, hv.hm, hv.pC, hv.pR, hv.pB, hv.kC, hv.kR, hv.kB, hv.sz, hv.fa, hv.wh, hv.wa, hv.lo, hv.kr, hv.kc, ?_, fun i h1 h2 => ?_, hv.en, hv.hg, hv.gC, hv.gR, hv.gB, rfl, rfl, fun i hi => ?_⟩, h.f, rfl, rfl, h.eC, hk, Nat.le_refl _⟩
  · exact hv.c0
  · rw [y_gi, y_il, y_il, y_gi, y_gi]
    by_cases h10 : i = 10
    · subst h10
      rfl
    · rw [if_neg (fun q => h10 q.2), if_neg (by omega), if_neg (fun q => h10 q.2)]
      rw [y_gi, if_neg (by omega), y_gi, if_neg (by omega), y_gi, if_neg (by omega), y_gi, if_neg (by omega)]
      exact hv.cs i h1 h2
  · rw [y_li, y_li, y_gl, y_gl, y_gl, y_gl, y_li, y_li]
    by_cases hi2 : i = b
    · subst hi2
      rw [if_neg (by omega), if_pos ⟨rfl, rfl⟩, if_pos ⟨rfl, rfl⟩]
      rw [y_gi, if_neg (by omega), y_gi, if_neg (by omega), y_gi, if_neg (by omega), y_gi, if_pos ⟨rfl, rfl⟩]
      rw [y_gi, if_neg (by omega), y_gi, if_neg (by omega), y_gi, if_pos ⟨rfl, rfl⟩]
      exact ⟨rfl, rfl⟩
    · rw [if_neg (by omega), if_neg (fun q => hi2 q.2), if_neg (fun q => hi2 q.2), if_neg (by omega)]
      rw [y_gi, if_neg (by omega), y_gi, if_neg (by omega), y_gi, if_neg (by omega), y_gi, if_neg (fun q => hi2 q.2), y_gi, if_neg (by omega)]
      rw [y_gi, if_neg (by omega), y_gi, if_neg (by omega), y_gi, if_neg (fun q => hi2 q.2), y_gi, if_neg (by omega), y_gi, if_neg (by omega)]
      exact hv.bS i (by omega)
def r_said (x1 x9 x10 : Int32) (s1 s2 : Int64) (q23 : zx_D) : Option zx_D :=
    if s1 < 0 then
      if s2 < 0 then
        some q23
      else
        if s2 = (((zg_i q23 0 5) - x10)).toInt64 then
          some q23
        else
          (g_R_fail (-6) x1 q23).bind fun q24 =>
          some q24
    else
      if ¬ s1 = (((zg_i q23 0 28) - x9)).toInt64 then
        (g_R_fail (-6) x1 q23).bind fun q25 =>
        some q25
      else
        if s2 < 0 then
          some q23
        else
          if s2 = (((zg_i q23 0 5) - x10)).toInt64 then
            some q23
          else
            (g_R_fail (-6) x1 q23).bind fun q26 =>
            some q26
def r_blk4 (x1 x10 : Int32) (q27 : zx_D) : Option zx_D :=
  ((
    if ¬ zg_i q27 0 29 = 0 then
      some q27
    else
      (g_R_zeros x1 q27).bind fun q28 =>
      some q28
  ) : Option (zx_D)).bind fun q29 =>
  ((
    if ¬ zg_i q29 0 31 = 0 then
      if ¬ zg_i q29 0 31 = 1 then
        some 8
      else
        some 4
    else
      some 0
  ) : Option (Int32)).bind fun q30 =>
  if ¬ zg_i q29 0 29 = 0 then
    some q29
  else
    (g_R_has q30 q29).bind fun q31 =>
    if ¬ q31.1 = 0 then
      if ¬ zg_i q31.2 0 31 = 1 then
        g_R_block_493 x10 ((zg_i q27 0 28) - x1) q30 q31.2
      else
        (g_R_number (zg_i q31.2 0 28) 4 q31.2).bind fun q35 =>
        (g_R_fourOfMade x10 q31.2).bind fun q36 =>
        if ¬ q35 = q36 then
          (g_R_fail (-4) (zg_i q31.2 0 28) q31.2).bind fun q37 =>
          some q37
        else
          g_R_block_493 x10 ((zg_i q27 0 28) - x1) q30 q31.2
    else
      some q31.2
theorem r_blk3_eq (x1 x9 x10 : Int32) (s1 s2 : Int64) (q23 : zx_D) : r_blk3 x1 x9 x10 s1 s2 q23 = (r_said x1 x9 x10 s1 s2 q23).bind fun q27 => r_blk4 x1 x10 q27 := rfl
theorem r_blk4_0 {E : zx_D} (x1 x10 : Int32) (h : zg_i E 0 29 ≠ 0) : r_blk4 x1 x10 E = some E := by
  unfold r_blk4
  rw [if_pos h, Option.bind_some]
  split
  · split
    · first | rfl | (rw [Option.bind_some, if_pos h])
    · first | rfl | (rw [Option.bind_some, if_pos h])
  · first | rfl | (rw [Option.bind_some, if_pos h])
theorem s_close2 {n m g b a s g0 : Nat} {D R : zx_D} (h : zS n m g b m a D R) (so : zg_i D 9 7 = zg_i R 0 31) (hso : zg_i R 0 31 = 0 ∨ zg_i R 0 31 = 1 ∨ zg_i R 0 31 = 4) (b8 : zg_i D 9 8 = nI s) (b9 : zg_i D 9 9 = nI g0) (hg0 : g0 ≤ g) (hs : s + 13 ≤ a) (hb : 12 + 16 * b ≤ s) :
    (∃ a' D' R', g_Unp_closeBlock_90 (nI (g - g0)) D = some D' ∧ r_blk4 (nI s) (nI g0) R = some R' ∧ zS n m g (b + 1) m a' D' R' ∧ 12 + 16 * (b + 1) ≤ a' ∧ zg_i D' 9 7 = zg_i R' 0 31 ∧ zg_i R' 0 31 = zg_i R 0 31) ∨
    (∃ D' R', g_Unp_closeBlock_90 (nI (g - g0)) D = some D' ∧ r_blk4 (nI s) (nI g0) R = some R' ∧ zF n m g b D' R') := by
  have hm := h.v.hm
  have hae := h.ae
  have z4 : ¬ (1 : Int32) = 0 := by decide
  have hsb : nI a - nI s = nI (a - s) := y_sub (by omega)
  rcases s_fill h (s := s) (by omega) with ⟨a', t1, t2, t3, t4, t5, t6⟩ | ⟨D', R', t5, t6, t7, t8⟩
  · have h1 := h.go (a' := a') t3
    have so1 : zg_i (zp_i D 12 3 (nI a')) 9 7 = zg_i (zp_i R 0 28 (nI a')) 0 31 := so
    have bb1 : zg_i (zp_i D 12 3 (nI a')) 9 9 = nI g0 := b9
    have soD : zg_i (zp_i D 12 3 (nI a')) 9 7 = zg_i D 9 7 := rfl
    have soR : zg_i (zp_i R 0 28 (nI a')) 0 31 = zg_i R 0 31 := rfl
    have hbl : b < 40 := by omega
    have C0 : ∀ q2, g_P_checkSize (zg_i D 9 7) D = some q2 → g_Unp_closeBlock_90 (nI (g - g0)) D = ((
    if ¬ zg_i (zp_i D 12 3 (nI a')) 9 7 = 1 then
      if ¬ zg_i (zp_i D 12 3 (nI a')) 9 7 = 4 then
        some (zp_i D 12 3 (nI a'))
      else
        (g_P_sumEight_11 (nI g0) (nI g) (zp_i D 12 3 (nI a'))).bind fun q4 =>
        (g_Cur_expectSum 8 q4 (zp_i D 12 3 (nI a'))).bind fun q5 =>
        some q5
    else
      (g_P_sumFour_11 (nI g0) (nI g) (zp_i D 12 3 (nI a'))).bind fun q6 =>
      (g_Cur_expectSum 4 q6 (zp_i D 12 3 (nI a'))).bind fun q7 =>
      some q7
  ) : Option (zx_D)).bind fun q8 =>
  (g_Cur_isSound q8).bind fun q9 =>
  if q9 = 0 then
    some q8
  else
    if 40 ≤ zg_i q8 14 (zn 10) then
      some q8
    else
      if zk_in (zg_i q8 14 (zn 10)) 40 = true then
      if zk_in (zg_i q8 14 (zn 10)) 40 = true then
      some (zp_i (zp_l (zp_l q8 15 (zn (zg_i q8 14 (zn 10))) ((nI (a - s) + q2).toInt64)) 16 (zn (zg_i q8 14 (zn 10))) ((nI (g - g0)).toInt64)) 14 (zn 10) ((zg_i q8 14 (zn 10)) + 1))
      else none
      else none := by
      intro q2 hq2
      have gC1 : zg_i (zp_i D 12 3 (nI a')) 10 1 = nI g := h.v.gC
      unfold g_Unp_closeBlock_90
      simp only [hq2, b8, t5, Option.bind_some, bb1, gC1, h.nC, hsb]
    have R0 : r_blk4 (nI s) (nI g0) R = (((
    if ¬ zg_i R 0 31 = 0 then
      if ¬ zg_i R 0 31 = 1 then
        some 8
      else
        some 4
    else
      some 0
  ) : Option (Int32)).bind fun q30 =>
    (g_R_has q30 (zp_i R 0 28 (nI a'))).bind fun q31 =>
    if ¬ q31.1 = 0 then
      if ¬ zg_i q31.2 0 31 = 1 then
        g_R_block_493 (nI g0) (nI (a - s)) q30 q31.2
      else
        (g_R_number (zg_i q31.2 0 28) 4 q31.2).bind fun q35 =>
        (g_R_fourOfMade (nI g0) q31.2).bind fun q36 =>
        if ¬ q35 = q36 then
          (g_R_fail (-4) (zg_i q31.2 0 28) q31.2).bind fun q37 =>
          some q37
        else
          g_R_block_493 (nI g0) (nI (a - s)) q30 q31.2
    else
      some q31.2) := by
      have f1 : zg_i (zp_i R 0 28 (nI a')) 0 29 = 0 := h.f
      unfold r_blk4
      simp only [h.f, t6, h.nR, hsb, Option.bind_some, not_true_eq_false, ↓reduceIte, soR, f1]
    generalize hD1 : zp_i D 12 3 (nI a') = D1 at *
    generalize hR1 : zp_i R 0 28 (nI a') = R1 at *
    have fin : ∀ (k : Nat), a' + k ≤ m → ∃ D' R', (if 40 ≤ zg_i (zp_i D1 12 3 (nI (a' + k))) 14 (zn 10) then
      some (zp_i D1 12 3 (nI (a' + k)))
    else
      if zk_in (zg_i (zp_i D1 12 3 (nI (a' + k))) 14 (zn 10)) 40 = true then
      if zk_in (zg_i (zp_i D1 12 3 (nI (a' + k))) 14 (zn 10)) 40 = true then
      some (zp_i (zp_l (zp_l (zp_i D1 12 3 (nI (a' + k))) 15 (zn (zg_i (zp_i D1 12 3 (nI (a' + k))) 14 (zn 10))) ((nI (a - s) + nI k).toInt64)) 16 (zn (zg_i (zp_i D1 12 3 (nI (a' + k))) 14 (zn 10))) ((nI (g - g0)).toInt64)) 14 (zn 10) ((zg_i (zp_i D1 12 3 (nI (a' + k))) 14 (zn 10)) + 1))
      else none
      else none) = some D' ∧ g_R_block_532 (nI g0) (nI (a - s)) (nI k) R1 = some R' ∧ zS n m g (b + 1) m (a' + k) D' R' ∧ 12 + 16 * (b + 1) ≤ a' + k ∧ zg_i D' 9 7 = zg_i R' 0 31 ∧ zg_i R' 0 31 = zg_i R 0 31 := by
      intro k hk
      have c10 : zg_i (zp_i D1 12 3 (nI (a' + k))) 14 10 = nI b := h1.v.bC
      have r10 : zg_i R1 9 10 = nI b := by
        have := h1.v.cs 10 (by omega) (by omega)
        rw [h1.v.bC] at this
        exact this.symm
      have z1 : zk_in (nI b) 40 = true := y_in (by omega) (by omega)
      have z1' : zk_in (nI b) 48 = true := y_in (by omega) (by omega)
      have z2 : zn (nI b) = b := y_zn (by omega)
      have z3 : ¬ (40 : Int32) ≤ nI b := fun q => by have := (y_le (a := 40) (by omega) (by omega)).mp q; omega
      have z5 : zn 10 = 10 := rfl
      have z6 : nI g - nI g0 = nI (g - g0) := y_sub hg0
      refine ⟨_, _, ?_, ?_, s_told h1 (nI (a - s) + nI k) hbl hg0 k hk, by omega, so1, soR⟩
      · simp only [Option.bind_some, ↓reduceIte, not_true_eq_false, not_false_eq_true, y_1, c10, z1, z2, z3, z5]
      · simp only [Option.bind_some, ↓reduceIte, not_true_eq_false, not_false_eq_true, y_1, g_R_block_532, h1.v.bR, z1', z2, h1.nR, h1.v.gR, r10, z5, z6, y_add]
    have z10 : ¬ (0 : Int32) = 1 := by decide
    have z04 : ¬ (0 : Int32) = 4 := by decide
    have z14 : ¬ (1 : Int32) = 4 := by decide
    have z41 : ¬ (4 : Int32) = 1 := by decide
    have z40 : ¬ (4 : Int32) = 0 := by decide
    rcases hso with hs0 | hs0 | hs0
    · -- no sum
      have q2 : g_P_checkSize (zg_i D 9 7) D = some 0 := by rw [so, hs0]; rfl
      have hd : zg_i D1 9 7 = 0 := by rw [soD, so, hs0]
      have hr : zg_i R1 0 31 = 0 := by rw [soR, hs0]
      have hh : g_R_has 0 R1 = some (1, R1) := r_has1 h1 (k := 0) (by omega)
      obtain ⟨D', R', f1, f2, f3, f4, f5, f6⟩ := fin 0 (by omega)
      rw [show zp_i D1 12 3 (nI (a' + 0)) = D1 from y_same' h1.nC] at f1
      have f1 : (if 40 ≤ zg_i D1 14 (zn 10) then some D1 else if zk_in (zg_i D1 14 (zn 10)) 40 = true then if zk_in (zg_i D1 14 (zn 10)) 40 = true then some (zp_i (zp_l (zp_l D1 15 (zn (zg_i D1 14 (zn 10))) ((nI (a - s) + 0).toInt64)) 16 (zn (zg_i D1 14 (zn 10))) ((nI (g - g0)).toInt64)) 14 (zn 10) ((zg_i D1 14 (zn 10)) + 1)) else none else none) = some D' := f1
      have f2 : g_R_block_532 (nI g0) (nI (a - s)) 0 R1 = some R' := f2
      refine Or.inl ⟨a' + 0, D', R', ?_, ?_, f3, f4, f5, f6⟩
      · rw [C0 0 q2]
        simp only [hd, z10, z04, c_snd1 h1.c, z4, Option.bind_some, not_false_eq_true, ↓reduceIte]
        exact f1
      · rw [R0]
        simp only [hs0, hr, hh, z4, z10, z04, g_R_block_493, Option.bind_some, not_false_eq_true, not_true_eq_false, ↓reduceIte]
        exact f2
    · -- four bytes
      have q2 : g_P_checkSize (zg_i D 9 7) D = some 4 := by rw [so, hs0]; rfl
      have hd : zg_i D1 9 7 = 1 := by rw [soD, so, hs0]
      have hr : zg_i R1 0 31 = 1 := by rw [soR, hs0]
      obtain ⟨v, v1, v2⟩ := s_sumG h1.v hg0
      rcases s_es h1 (k := 4) (by omega) v with ⟨w, p1, p2, p3, p4⟩ | ⟨D', R', p3, p4, p5⟩
      · have p2 : g_R_has 4 R1 = some (1, R1) := p2
        have p3 : g_R_number (nI a') 4 R1 = some w := p3
        have p4 : g_Cur_expectSum 4 v D1 = _ := p4
        by_cases hw : w = v
        · subst hw
          rw [if_pos rfl] at p4
          obtain ⟨D', R', f1, f2, f3, f4, f5, f6⟩ := fin 4 p1
          have f2 : g_R_block_532 (nI g0) (nI (a - s)) 4 R1 = some R' := f2
          refine Or.inl ⟨a' + 4, D', R', ?_, ?_, f3, f4, f5, f6⟩
          · have sd : g_Cur_isSound (zp_i D1 12 3 (nI (a' + 4))) = some 1 := c_snd1 (D := zp_i D1 12 3 (nI (a' + 4))) h1.c
            rw [C0 4 q2]
            simp only [hd, v1, p4, sd, z4, Option.bind_some, not_true_eq_false, ↓reduceIte]
            exact f1
          · rw [R0]
            simp only [hs0, hr, p2, z4, z14, h1.nR, p3, v2, g_R_block_493, Option.bind_some, not_false_eq_true, not_true_eq_false, ↓reduceIte]
            exact f2
        · right
          rw [if_neg hw] at p4
          have hF := h1.fail (w := -4) (nI a') (by decide)
          refine ⟨_, _, ?_, ?_, hF⟩
          · rw [C0 4 q2]
            simp only [hd, v1, p4, c_snd0 hF.c, Option.bind_some, not_true_eq_false, ↓reduceIte]
          · rw [R0]
            simp only [hs0, hr, p2, z4, h1.nR, p3, v2, hw, r_fail1 _ _ h1.f, Option.bind_some, not_false_eq_true, not_true_eq_false, ↓reduceIte]
      · right
        have p3 : g_Cur_expectSum 4 v D1 = _ := p3
        have p4 : g_R_has 4 R1 = _ := p4
        refine ⟨D', R', ?_, ?_, p5⟩
        · rw [C0 4 q2]
          simp only [hd, v1, p3, c_snd0 p5.c, Option.bind_some, not_true_eq_false, ↓reduceIte]
        · rw [R0]
          simp only [hs0, z4, p4, Option.bind_some, not_false_eq_true, not_true_eq_false, ↓reduceIte]
    · -- eight bytes
      have q2 : g_P_checkSize (zg_i D 9 7) D = some 8 := by rw [so, hs0]; rfl
      have hd : zg_i D1 9 7 = 4 := by rw [soD, so, hs0]
      have hr : zg_i R1 0 31 = 4 := by rw [soR, hs0]
      obtain ⟨v, v1, v2⟩ := s_sumG8 h1.v hg0
      rcases s_es h1 (k := 8) (by omega) v with ⟨w, p1, p2, p3, p4⟩ | ⟨D', R', p3, p4, p5⟩
      · have p2 : g_R_has 8 R1 = some (1, R1) := p2
        have p3 : g_R_number (nI a') 8 R1 = some w := p3
        have p4 : g_Cur_expectSum 8 v D1 = _ := p4
        by_cases hw : w = v
        · subst hw
          rw [if_pos rfl] at p4
          obtain ⟨D', R', f1, f2, f3, f4, f5, f6⟩ := fin 8 p1
          have f2 : g_R_block_532 (nI g0) (nI (a - s)) 8 R1 = some R' := f2
          refine Or.inl ⟨a' + 8, D', R', ?_, ?_, f3, f4, f5, f6⟩
          · have sd : g_Cur_isSound (zp_i D1 12 3 (nI (a' + 8))) = some 1 := c_snd1 (D := zp_i D1 12 3 (nI (a' + 8))) h1.c
            rw [C0 8 q2]
            simp only [hd, z41, v1, p4, sd, z4, Option.bind_some, not_true_eq_false, not_false_eq_true, ↓reduceIte]
            exact f1
          · rw [R0]
            simp only [hs0, hr, p2, z4, z40, z41, h1.nR, p3, v2, g_R_block_493, Option.bind_some, not_false_eq_true, not_true_eq_false, ↓reduceIte]
            exact f2
        · right
          rw [if_neg hw] at p4
          have hF := h1.fail (w := -4) (nI a') (by decide)
          refine ⟨_, _, ?_, ?_, hF⟩
          · rw [C0 8 q2]
            simp only [hd, z41, v1, p4, c_snd0 hF.c, Option.bind_some, not_true_eq_false, not_false_eq_true, ↓reduceIte]
          · rw [R0]
            simp only [hs0, hr, p2, z4, z40, z41, h1.nR, p3, v2, hw, g_R_block_493, r_fail1 _ _ h1.f, Option.bind_some, not_false_eq_true, not_true_eq_false, ↓reduceIte]
      · right
        have p3 : g_Cur_expectSum 8 v D1 = _ := p3
        have p4 : g_R_has 8 R1 = _ := p4
        refine ⟨D', R', ?_, ?_, p5⟩
        · rw [C0 8 q2]
          simp only [hd, z41, v1, p3, c_snd0 p5.c, Option.bind_some, not_true_eq_false, not_false_eq_true, ↓reduceIte]
        · rw [R0]
          simp only [hs0, z40, z41, p4, Option.bind_some, not_false_eq_true, not_true_eq_false, ↓reduceIte]
  · right
    refine ⟨D', R', ?_, ?_, t7⟩
    · have gC1 : zg_i D' 10 1 = nI g := t7.v.gC
      have e9 : zg_i D' 9 9 = nI g0 := by rw [t8, b9]
      have e7 : zg_i D' 9 7 = zg_i D 9 7 := t8 7
      obtain ⟨v, v1, -⟩ := s_sumG t7.v hg0
      obtain ⟨v', v1', -⟩ := s_sumG8 t7.v hg0
      have z10 : ¬ (0 : Int32) = 1 := by decide
      have z04 : ¬ (0 : Int32) = 4 := by decide
      have z41 : ¬ (4 : Int32) = 1 := by decide
      rcases hso with hs0 | hs0 | hs0
      · have hd : zg_i D' 9 7 = 0 := by rw [e7, so, hs0]
        have q2 : g_P_checkSize (zg_i D 9 7) D = some 0 := by rw [so, hs0]; rfl
        simp only [g_Unp_closeBlock_90, q2, b8, t5, hd, z10, z04, c_snd0 t7.c, Option.bind_some, not_false_eq_true, ↓reduceIte]
      · have hd : zg_i D' 9 7 = 1 := by rw [e7, so, hs0]
        have q2 : g_P_checkSize (zg_i D 9 7) D = some 4 := by rw [so, hs0]; rfl
        simp only [g_Unp_closeBlock_90, q2, b8, t5, hd, e9, gC1, v1, c_es0 _ _ t7.c, c_snd0 t7.c, Option.bind_some, not_true_eq_false, ↓reduceIte]
      · have hd : zg_i D' 9 7 = 4 := by rw [e7, so, hs0]
        have q2 : g_P_checkSize (zg_i D 9 7) D = some 8 := by rw [so, hs0]; rfl
        simp only [g_Unp_closeBlock_90, q2, b8, t5, hd, z41, e9, gC1, v1', c_es0 _ _ t7.c, c_snd0 t7.c, Option.bind_some, not_true_eq_false, not_false_eq_true, ↓reduceIte]
    · unfold r_blk4
      have f0 := h.f
      simp only [f0, t6, Option.bind_some, not_true_eq_false, ↓reduceIte]
      split
      · split
        · first | rfl | (rw [Option.bind_some, if_pos t7.f])
        · first | rfl | (rw [Option.bind_some, if_pos t7.f])
      · first | rfl | (rw [Option.bind_some, if_pos t7.f])
theorem s_said {n m g b a a0 s g0 : Nat} {D R : zx_D} (h : zS n m g b m a D R) (b8 : zg_i D 9 8 = nI s) (b9 : zg_i D 9 9 = nI g0) (hg0 : g0 ≤ g) (ha0 : a0 ≤ a) (p1 : zg_l D 9 10 = -1 ∨ y_P (zg_l D 9 10)) (p2 : zg_l D 9 11 = -1 ∨ y_P (zg_l D 9 11)) :
    (g_Unp_closeBlock (nI a0) D = g_Unp_closeBlock_90 (nI (g - g0)) D ∧ r_said (nI s) (nI a0) (nI g0) (zg_l D 9 10) (zg_l D 9 11) R = some R) ∨
    (g_Unp_closeBlock (nI a0) D = some (zp_i (zp_i D 12 4 (-6)) 12 5 (nI s)) ∧ r_said (nI s) (nI a0) (nI g0) (zg_l D 9 10) (zg_l D 9 11) R = some (zp_i (zp_i R 0 30 (nI s)) 0 29 (-6))) := by
  have z4 : ¬ (1 : Int32) = 0 := by decide
  have e1 : nI g - nI g0 = nI (g - g0) := y_sub hg0
  have e2 : nI a - nI a0 = nI (a - a0) := y_sub ha0
  have m1 : (-1 : Int64) < 0 := by decide
  have gC := h.v.gC
  have gR := h.v.gR
  generalize hs1 : zg_l D 9 10 = s1 at *
  generalize hs2 : zg_l D 9 11 = s2 at *
  have second : (g_Unp_closeBlock_55 (nI (g - g0)) D = g_Unp_closeBlock_90 (nI (g - g0)) D ∧ (if s2 < 0 then some R else if s2 = (nI (g - g0)).toInt64 then some R else (g_R_fail (-6) (nI s) R).bind fun q24 => some q24) = some R) ∨ (g_Unp_closeBlock_55 (nI (g - g0)) D = some (zp_i (zp_i D 12 4 (-6)) 12 5 (nI s)) ∧ (if s2 < 0 then some R else if s2 = (nI (g - g0)).toInt64 then some R else (g_R_fail (-6) (nI s) R).bind fun q24 => some q24) = some (zp_i (zp_i R 0 30 (nI s)) 0 29 (-6))) := by
    rcases p2 with p2 | p2
    · left
      subst p2
      exact ⟨by simp only [Option.bind_some, ↓reduceIte, not_true_eq_false, not_false_eq_true, y_1, g_Unp_closeBlock_55, hs2], by simp only [Option.bind_some, ↓reduceIte, not_true_eq_false, not_false_eq_true, y_1, m1]⟩
    · have q1 := y_P_nn p2
      have q2 := y_P_m1 p2
      by_cases hx : s2 = (nI (g - g0)).toInt64
      · left
        constructor
        · rw [g_Unp_closeBlock_55, hs2, if_neg q2, if_pos hx]
        · rw [if_neg q1, if_pos hx]
      · right
        constructor
        · simp only [Option.bind_some, ↓reduceIte, not_true_eq_false, not_false_eq_true, y_1, g_Unp_closeBlock_55, hs2, q2, hx, c_fail1 _ _ h.c, b8]
        · simp only [Option.bind_some, ↓reduceIte, not_true_eq_false, not_false_eq_true, y_1, q1, hx, r_fail1 _ _ h.f]
  rcases p1 with p1 | p1
  · subst p1
    have C : g_Unp_closeBlock (nI a0) D = g_Unp_closeBlock_55 (nI (g - g0)) D := by simp only [Option.bind_some, ↓reduceIte, not_true_eq_false, not_false_eq_true, y_1, g_Unp_closeBlock, c_snd1 h.c, z4, hs1, gC, b9, e1]
    have Q : r_said (nI s) (nI a0) (nI g0) (-1) s2 R = (if s2 < 0 then some R else if s2 = (nI (g - g0)).toInt64 then some R else (g_R_fail (-6) (nI s) R).bind fun q24 => some q24) := by
      unfold r_said
      simp only [m1, ↓reduceIte, gR, e1]
    rw [C, Q]
    exact second
  · have q1 := y_P_nn p1
    have q2 := y_P_m1 p1
    by_cases hx : s1 = (nI (a - a0)).toInt64
    · have C : g_Unp_closeBlock (nI a0) D = g_Unp_closeBlock_55 (nI (g - g0)) D := by
        simp only [Option.bind_some, ↓reduceIte, not_true_eq_false, not_false_eq_true, y_1, g_Unp_closeBlock, c_snd1 h.c, z4, hs1, q2, h.nC, e2, gC, b9, e1]
        rw [if_neg (fun q => q hx)]
      have Q : r_said (nI s) (nI a0) (nI g0) s1 s2 R = (if s2 < 0 then some R else if s2 = (nI (g - g0)).toInt64 then some R else (g_R_fail (-6) (nI s) R).bind fun q24 => some q24) := by
        unfold r_said
        simp only [q1, ↓reduceIte, gR, e1, h.nR, e2]
        rw [if_neg (fun q => q hx)]
      rw [C, Q]
      exact second
    · right
      constructor
      · simp only [Option.bind_some, ↓reduceIte, not_true_eq_false, not_false_eq_true, y_1, g_Unp_closeBlock, c_snd1 h.c, z4, hs1, q2, h.nC, e2, hx, c_fail1 _ _ h.c, b8]
      · unfold r_said
        simp only [q1, ↓reduceIte, h.nR, e2, hx, not_false_eq_true, r_fail1 _ _ h.f, Option.bind_some]
theorem s_close {n m g b a a0 s g0 : Nat} {D R : zx_D} (h : zS n m g b m a D R) (so : zg_i D 9 7 = zg_i R 0 31) (hso : zg_i R 0 31 = 0 ∨ zg_i R 0 31 = 1 ∨ zg_i R 0 31 = 4) (b8 : zg_i D 9 8 = nI s) (b9 : zg_i D 9 9 = nI g0) (hg0 : g0 ≤ g) (hs : s + 13 ≤ a) (hb : 12 + 16 * b ≤ s) (ha0 : a0 ≤ a) (p1 : zg_l D 9 10 = -1 ∨ y_P (zg_l D 9 10)) (p2 : zg_l D 9 11 = -1 ∨ y_P (zg_l D 9 11)) :
    (∃ a' D' R', g_Unp_closeBlock (nI a0) D = some D' ∧ r_blk3 (nI s) (nI a0) (nI g0) (zg_l D 9 10) (zg_l D 9 11) R = some R' ∧ zS n m g (b + 1) m a' D' R' ∧ 12 + 16 * (b + 1) ≤ a' ∧ zg_i D' 9 7 = zg_i R' 0 31 ∧ zg_i R' 0 31 = zg_i R 0 31) ∨
    (∃ D' R', g_Unp_closeBlock (nI a0) D = some D' ∧ r_blk3 (nI s) (nI a0) (nI g0) (zg_l D 9 10) (zg_l D 9 11) R = some R' ∧ zF n m g b D' R') := by
  rw [r_blk3_eq]
  rcases s_said h b8 b9 hg0 ha0 p1 p2 with ⟨q1, q2⟩ | ⟨q1, q2⟩
  · rw [q1, q2, Option.bind_some]
    exact s_close2 h so hso b8 b9 hg0 hs hb
  · right
    have hF := h.fail (w := -6) (nI s) (by decide)
    rw [q1, q2, Option.bind_some]
    exact ⟨_, _, rfl, r_blk4_0 _ _ hF.f, hF⟩
