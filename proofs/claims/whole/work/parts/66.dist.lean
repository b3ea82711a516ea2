theorem c_nlz32 (x : Int32) (D : zx_D) : ∃ q, g_Itg_numberOfLeadingZeros x D = some q := by
  unfold g_Itg_numberOfLeadingZeros
  by_cases h : 0 < x
  · rw [if_pos h]
    have s1 : ∀ x : Int32, ∃ q, ((if x < 65536 then some (x, 31) else some (zo_ushr x 16, 31 + (-16))) : Option (Int32 × Int32)) = some q := fun x => by
      by_cases t : x < 65536
      · exact ⟨_, by rw [if_pos t]⟩
      · exact ⟨_, by rw [if_neg t]⟩
    have s2 : ∀ q : Int32 × Int32, ∃ q', ((if q.1 < 256 then some (q.1, q.2) else some (zo_ushr q.1 8, q.2 + (-8))) : Option (Int32 × Int32)) = some q' := fun q => by
      by_cases t : q.1 < 256
      · exact ⟨_, by rw [if_pos t]⟩
      · exact ⟨_, by rw [if_neg t]⟩
    have s3 : ∀ q : Int32 × Int32, ∃ q', ((if q.1 < 16 then some (q.1, q.2) else some (zo_ushr q.1 4, q.2 + (-4))) : Option (Int32 × Int32)) = some q' := fun q => by
      by_cases t : q.1 < 16
      · exact ⟨_, by rw [if_pos t]⟩
      · exact ⟨_, by rw [if_neg t]⟩
    obtain ⟨q1, h1⟩ := s1 x
    obtain ⟨q2, h2⟩ := s2 q1
    obtain ⟨q3, h3⟩ := s3 q2
    rw [h1, Option.bind_some, h2, Option.bind_some, h3, Option.bind_some]
    by_cases t : q3.1 < 4
    · exact ⟨_, by rw [if_pos t]⟩
    · exact ⟨_, by rw [if_neg t]⟩
  · rw [if_neg h]
    by_cases t : ¬ x = 0
    · exact ⟨_, by rw [if_pos t]⟩
    · exact ⟨_, by rw [if_neg t]⟩
theorem c_nlz64 (x : Int64) (D : zx_D) : ∃ q, g_Lng_numberOfLeadingZeros x D = some q := by
  unfold g_Lng_numberOfLeadingZeros
  by_cases t : ¬ (zo_lushr x 32).toInt32 = 0
  · obtain ⟨q, hq⟩ := c_nlz32 (zo_lushr x 32).toInt32 D
    exact ⟨_, by rw [if_pos t, hq, Option.bind_some]⟩
  · obtain ⟨q, hq⟩ := c_nlz32 x.toInt32 D
    exact ⟨_, by rw [if_neg t, hq, Option.bind_some]⟩
theorem c_slot (x : Int64) (D : zx_D) : ∃ q, g_Mdl_slotOf x D = some q := by
  unfold g_Mdl_slotOf
  by_cases t : 4 ≤ x - 1
  · obtain ⟨q, hq⟩ := c_nlz64 (x - 1) D
    exact ⟨_, by rw [if_pos t, hq, Option.bind_some]⟩
  · exact ⟨_, by rw [if_neg t]⟩
theorem v_dbl (u bit : Nat) (hb : bit ≤ 1) : 2 * nL u + (nI bit).toInt64 = nL (2 * u + bit) := by rw [show (2 : Int64) = nL 2 from rfl, v_mul, v_of (by omega), v_add]
def zSt (t r c : Nat) : Prop := c < r ∨ ∃ t' s, t' ≤ t ∧ zBk t' t' t' s r c
theorem d_evens {n m g b e lc lp pb st kk : Nat} {Z : Nat → Nat} (x3 x5 x4 : Int64) (hk : kk ≤ 30) : ∀ (j k1 k2 u t r c x : Nat) (D R : zx_D), j + 4 ≤ kk → j < k1 → j < k2 → u < 2 ^ (kk - 4 - j) → t + j ≤ 26 → zA n m g b r c x e lc lp pb st Z D R → zSt t r c →
    (∃ u' r' c' x' D' R', u' < 2 ^ (kk - 4) ∧ g_Mdl_codeDistance_s_106 x3 x5 k1 (nL u) (nI (3 + j)) D = some (nL u', D') ∧ g_R_distance_97 (nI kk) x4 k2 (nL u) (nI (kk - j)) R = some (nL u', R') ∧ zA n m g b r' c' x' e lc lp pb st Z D' R' ∧ zQ D D' R R' ∧ zSt (t + j) r' c') ∨
    (∃ u' u'' D' R', g_Mdl_codeDistance_s_106 x3 x5 k1 (nL u) (nI (3 + j)) D = some (u', D') ∧ g_R_distance_97 (nI kk) x4 k2 (nL u) (nI (kk - j)) R = some (u'', R') ∧ zX n m g b D' R' ∧ zQ D D' R R')
  | 0, k1 + 1, k2 + 1, u, t, r, c, x, D, R, _, _, _, hu, _, h, hst => by
    left
    have e1 : nI (3 + 0) < 4 := by decide
    have e2 : nI kk ≤ nI (kk - 0) := by rw [Nat.sub_zero]; exact Int32.le_refl _
    exact ⟨u, r, c, x, D, R, hu, by simp only [Option.bind_some, ↓reduceIte, not_true_eq_false, not_false_eq_true, y_1, g_Mdl_codeDistance_s_106, e1], by simp only [Option.bind_some, ↓reduceIte, not_true_eq_false, not_false_eq_true, y_1, g_R_distance_97, e2], h, zQ_rfl, hst⟩
  | j + 1, k1 + 1, k2 + 1, u, t, r, c, x, D, R, hj, h1, h2, hu, ht, h, hst => by
    have e1 : ¬ nI (3 + (j + 1)) < 4 := fun q => by have := (y_lt (b := 4) (by omega) (by omega)).mp q; omega
    have e2 : ¬ nI kk ≤ nI (kk - (j + 1)) := fun q => by have := (y_le (by omega) (by omega)).mp q; omega
    have e3 : nI (3 + (j + 1)) + (-1) = nI (3 + j) := by
      rw [← Int32.sub_eq_add_neg]
      exact y_sub (a := 3 + (j + 1)) (b := 1) (by omega)
    have e4 : kk - (j + 1) + 1 = kk - j := by omega
    have hp : 2 ^ (kk - 4 - j) = 2 * 2 ^ (kk - 4 - (j + 1)) := by
      rw [show kk - 4 - j = (kk - 4 - (j + 1)) + 1 by omega, Nat.pow_succ, Nat.mul_comm]
    have dead : ∀ (D1 R1 : zx_D), zX n m g b D1 R1 → ∀ (j k1 k2 : Nat) (u u2 : Int64), j + 4 ≤ kk → j < k1 → j < k2 → ∃ u' u'', g_Mdl_codeDistance_s_106 x3 x5 k1 u (nI (3 + j)) D1 = some (u', D1) ∧ g_R_distance_97 (nI kk) x4 k2 u2 (nI (kk - j)) R1 = some (u'', R1) := by
      intro D1 R1 hX j
      induction j with
      | zero =>
        intro k1 k2 u u2 _ h1 h2
        match k1, k2, h1, h2 with
        | k1 + 1, k2 + 1, _, _ =>
          have e1 : nI (3 + 0) < 4 := by decide
          have e2 : nI kk ≤ nI (kk - 0) := by rw [Nat.sub_zero]; exact Int32.le_refl _
          exact ⟨u, u2, by simp only [Option.bind_some, ↓reduceIte, not_true_eq_false, not_false_eq_true, y_1, g_Mdl_codeDistance_s_106, e1], by simp only [Option.bind_some, ↓reduceIte, not_true_eq_false, not_false_eq_true, y_1, g_R_distance_97, e2]⟩
      | succ j ih =>
        intro k1 k2 u u2 hj h1 h2
        match k1, k2, h1, h2 with
        | k1 + 1, k2 + 1, h1, h2 =>
          have e1 : ¬ nI (3 + (j + 1)) < 4 := fun q => by have := (y_lt (b := 4) (by omega) (by omega)).mp q; omega
          have e2 : ¬ nI kk ≤ nI (kk - (j + 1)) := fun q => by have := (y_le (by omega) (by omega)).mp q; omega
          have e3 : nI (3 + (j + 1)) + (-1) = nI (3 + j) := by
            rw [← Int32.sub_eq_add_neg]
            exact y_sub (a := 3 + (j + 1)) (b := 1) (by omega)
          have e4 : kk - (j + 1) + 1 = kk - j := by omega
          obtain ⟨u', u'', w1, w2⟩ := ih k1 k2 (2 * u + (0 : Int32).toInt64) (2 * u2 + (0 : Int32).toInt64) (by omega) (by omega) (by omega)
          refine ⟨u', u'', ?_, ?_⟩
          · rw [g_Mdl_codeDistance_s_106, if_neg e1, x_evC _ hX.bC, Option.bind_some, e3]
            exact w1
          · rw [g_R_distance_97, if_neg e2, x_evR hX.bR, Option.bind_some, y_1, e4]
            exact w2
    have one : (∃ r' c' x' bit D' R', bit ≤ 1 ∧ g_Src_codeEvenBit ((zo_lushr x5 (nI (3 + (j + 1)))).toInt32 &&& 1) D = some (nI bit, D') ∧ g_R_even R = some (nI bit, R') ∧ zA n m g b r' c' x' e lc lp pb st Z D' R' ∧ zQ D D' R R' ∧ zSt (t + 1) r' c') ∨ (∃ D' R', g_Src_codeEvenBit ((zo_lushr x5 (nI (3 + (j + 1)))).toInt32 &&& 1) D = some (0, D') ∧ g_R_even R = some (0, R') ∧ zX n m g b D' R' ∧ zQ D D' R R') := by
      rcases hst with hcr | ⟨t', s, ht', hB⟩
      · rcases d_even h (Or.inl hcr) ((zo_lushr x5 (nI (3 + (j + 1)))).toInt32 &&& 1) with ⟨r1, c1, x1, bit, D1, R1, t1, t2, t3, t4, t5, t6, t7⟩ | hx
        · left
          refine ⟨r1, c1, x1, bit, D1, R1, t5, t1, t2, t3, t4, ?_⟩
          rcases t6 hcr with q | ⟨q1, q2⟩
          · exact Or.inl q
          · subst q1
            exact Or.inr ⟨0, 0, by omega, zBk_0 q2⟩
        · exact Or.inr hx
      · rcases d_evenB h hB (by omega) (by omega) (by omega) ((zo_lushr x5 (nI (3 + (j + 1)))).toInt32 &&& 1) with ⟨r1, c1, x1, s', D1, R1, t1, t2, t3, t4, t5⟩ | hx
        · left
          exact ⟨r1, c1, x1, 1, D1, R1, by omega, t1, t2, t3, t4, Or.inr ⟨t' + 1, s', by omega, t5⟩⟩
        · exact Or.inr hx
    rcases one with ⟨r1, c1, x1, bit, D1, R1, hbit, t1, t2, t3, t4, t5⟩ | ⟨D1, R1, t1, t2, t3, t4⟩
    · have E1 : g_Mdl_codeDistance_s_106 x3 x5 (k1 + 1) (nL u) (nI (3 + (j + 1))) D = g_Mdl_codeDistance_s_106 x3 x5 k1 (nL (2 * u + bit)) (nI (3 + j)) D1 := by
        rw [g_Mdl_codeDistance_s_106, if_neg e1, t1, Option.bind_some, v_dbl u bit hbit, e3]
      have E2 : g_R_distance_97 (nI kk) x4 (k2 + 1) (nL u) (nI (kk - (j + 1))) R = g_R_distance_97 (nI kk) x4 k2 (nL (2 * u + bit)) (nI (kk - j)) R1 := by
        rw [g_R_distance_97, if_neg e2, t2, Option.bind_some, v_dbl u bit hbit, y_1, e4]
      rw [E1, E2]
      rcases d_evens x3 x5 x4 hk j k1 k2 (2 * u + bit) (t + 1) r1 c1 x1 D1 R1 (by omega) (by omega) (by omega) (by omega) (by omega) t3 t5 with ⟨u', r', c', x', D', R', w1, w2, w3, w4, w5, w6⟩ | ⟨u', u'', D', R', w1, w2, w3, w4⟩
      · left
        refine ⟨u', r', c', x', D', R', w1, w2, w3, w4, t4.trans w5, ?_⟩
        rw [show t + (j + 1) = t + 1 + j by omega]
        exact w6
      · exact Or.inr ⟨u', u'', D', R', w1, w2, w3, t4.trans w4⟩
    · right
      obtain ⟨u', u'', w1, w2⟩ := dead D1 R1 t3 j k1 k2 (2 * nL u + (0 : Int32).toInt64) (2 * nL u + (0 : Int32).toInt64) (by omega) (by omega) (by omega)
      refine ⟨u', u'', D1, R1, ?_, ?_, t3, t4⟩
      · rw [g_Mdl_codeDistance_s_106, if_neg e1, t1, Option.bind_some, e3]
        exact w1
      · rw [g_R_distance_97, if_neg e2, t2, Option.bind_some, y_1, e4]
        exact w2
theorem d_farB {n m g b e lc lp pb st r c x N S E s : Nat} {Z : Nat → Nat} {D R : zx_D} (w : Int32) (h : zA n m g b r c x e lc lp pb st Z D R) (hB : zBk N S E s r c) (hN : N + 4 ≤ 31) (hS : S + tot zFs Z ≤ 527) (hE : E ≤ 26) :
    (∃ r' c' x' s' D' R', g_Mdl_codeTreeBackwards_s 2036 4 w D = some (15, D') ∧ g_R_backwards 8312 4 R = some (15, R') ∧ zA n m g b r' c' x' e lc lp pb st Z D' R' ∧ zQ D D' R R' ∧ zBk (N + 4) (S + tot zFs Z) E s' r' c') ∨
    (∃ t t' D' R', g_Mdl_codeTreeBackwards_s 2036 4 w D = some (t, D') ∧ g_R_backwards 8312 4 R = some (t', R') ∧ zX n m g b D' R' ∧ zQ D D' R R') := by
  have pw : 0 < 2 ^ (lc + lp) := Nat.two_pow_pos _
  have ht : tot zFs Z = Z 2037 + Z 2039 + Z 2043 + Z 2051 := by
    unfold tot zFs
    simp only [List.map_cons, List.map_nil, List.sum_cons, List.sum_nil]
    omega
  rw [ht] at hS
  have dead : ∀ (D1 R1 : zx_D), zX n m g b D1 R1 → ∀ (j k1 k2 : Nat) (v v2 u u2 : Int32), j ≤ 4 → j < k1 → j < k2 → ∃ u' u'', g_Mdl_codeTreeBackwards_s_9 2036 4 w k1 v u (nI (4 - j)) D1 = some (u', D1) ∧ g_R_backwards_8 8312 4 k2 v2 u2 (nI (4 - j)) R1 = some (u'', R1) := by
    intro D1 R1 hX j k1 k2 v v2 u u2 hj h1 h2
    obtain ⟨u', w1, u'', w2⟩ := x_backL D1 R1 2036 8312 4 w (by omega) hX.bC hX.bR j k1 k2 v v2 u u2 hj h1 h2
    exact ⟨u', u'', w1, w2⟩
  have bit : ∀ (N S s r c x k1 k2 i : Nat) (D R : zx_D) (v u : Int32), i < 4 → N ≤ 30 → S ≤ 527 → zA n m g b r c x e lc lp pb st Z D R → zBk N S E s r c → (∃ vn : Nat, v = nI vn ∧ vn < 16 ∧ True) → ∀ vn : Nat, v = nI vn → vn < 16 → 10 < k1 → 10 < k2 →
      (∃ r' c' x' s' D' R', g_Mdl_codeTreeBackwards_s_9 2036 4 w k1 v u (nI i) D = g_Mdl_codeTreeBackwards_s_9 2036 4 w (k1 - 1) (nI (2 * vn + 1)) (u + zo_shl 1 (nI i)) (nI (i + 1)) D' ∧ g_R_backwards_8 8312 4 k2 v u (nI i) R = g_R_backwards_8 8312 4 (k2 - 1) (nI (2 * vn + 1)) (u ||| zo_shl 1 (nI i)) (nI (i + 1)) R' ∧ zA n m g b r' c' x' e lc lp pb st Z D' R' ∧ zQ D D' R R' ∧ zBk (N + 1) (S + Z (2036 + vn)) E s' r' c') ∨
      (∃ t t' D' R', g_Mdl_codeTreeBackwards_s_9 2036 4 w k1 v u (nI i) D = some (t, D') ∧ g_R_backwards_8 8312 4 k2 v u (nI i) R = some (t', R') ∧ zX n m g b D' R' ∧ zQ D D' R R') := by
    intro N S s r c x k1 k2 i D R v u hi hN hS h hB _ vn hvn hv16 h1 h2
    subst hvn
    match k1, k2, h1, h2 with
    | k1 + 1, k2 + 1, h1, h2 =>
      have e2 : ¬ (4 : Int32) ≤ nI i := fun q => by have := (y_le (a := 4) (by omega) (by omega)).mp q; omega
      have i1 : 2036 + nI vn = nI (2036 + vn) := y_add 2036 vn
      have i2 : 8312 + nI vn = nI (zf (2036 + vn)) := by
        rw [show (8312 : Int32) = nI 8312 from rfl, y_add]
        congr 1
        unfold zf
        rw [if_neg (by omega), if_neg (by omega), if_neg (by omega), if_pos (by omega)]
        omega
      have d2 : ∀ z : Int32, 2 * nI vn + 1 = nI (2 * vn + 1) := fun _ => y_dbl vn 1
      rcases d_bitB h hB hN hS hE (k := 2036 + vn) (by omega) (zo_ushr w (nI i) &&& 1) with ⟨r', c', x', s', D', R', t1, t2, t3, t4, t5⟩ | ⟨D', R', t1, t2, t3, t4⟩
      · left
        refine ⟨r', c', x', s', D', R', ?_, ?_, t3, t4, t5⟩
        · rw [g_Mdl_codeTreeBackwards_s_9, if_neg e2, i1, t1, Option.bind_some, y_1]
          show g_Mdl_codeTreeBackwards_s_9 2036 4 w k1 (2 * nI vn + 1) _ _ _ = _
          rw [d2 0]
          rfl
        · rw [g_R_backwards_8, if_neg e2, i2, t2, Option.bind_some, y_1]
          show g_R_backwards_8 8312 4 k2 (2 * nI vn + 1) _ _ _ = _
          rw [d2 0]
          rfl
      · right
        obtain ⟨u', u'', w1, w2⟩ := dead D' R' t3 (4 - (i + 1)) k1 k2 (2 * nI vn + 0) (2 * nI vn + 0) (u + zo_shl 0 (nI i)) (u ||| zo_shl 0 (nI i)) (by omega) (by omega) (by omega)
        rw [show 4 - (4 - (i + 1)) = i + 1 by omega] at w1 w2
        refine ⟨u', u'', D', R', ?_, ?_, t3, t4⟩
        · rw [g_Mdl_codeTreeBackwards_s_9, if_neg e2, i1, t1, Option.bind_some, y_1]
          exact w1
        · rw [g_R_backwards_8, if_neg e2, i2, t2, Option.bind_some, y_1]
          exact w2
  have C0 : ∀ q : Int32 × zx_D, g_Mdl_codeTreeBackwards_s_9 2036 4 w 10000 1 0 0 D = some q → g_Mdl_codeTreeBackwards_s 2036 4 w D = some q := fun q hq => by simp only [Option.bind_some, ↓reduceIte, not_true_eq_false, not_false_eq_true, y_1, g_Mdl_codeTreeBackwards_s, hq]
  have R0 : ∀ q : Int32 × zx_D, g_R_backwards_8 8312 4 10000 1 0 0 R = some q → g_R_backwards 8312 4 R = some q := fun q hq => by simp only [Option.bind_some, ↓reduceIte, not_true_eq_false, not_false_eq_true, y_1, g_R_backwards, hq]
  rcases bit N S s r c x 10000 10000 0 D R 1 0 (by omega) (by omega) (by omega) h hB ⟨1, rfl, by omega, trivial⟩ 1 rfl (by omega) (by omega) (by omega) with ⟨r1, c1, x1, s1, D1, R1, a1, a2, a3, a4, a5⟩ | ⟨t, t', D', R', a1, a2, a3, a4⟩
  · rcases bit (N + 1) (S + Z 2037) s1 r1 c1 x1 9999 9999 1 D1 R1 (nI 3) (0 + zo_shl 1 (nI 0)) (by omega) (by omega) (by omega) a3 a5 ⟨3, rfl, by omega, trivial⟩ 3 rfl (by omega) (by omega) (by omega) with ⟨r2, c2, x2, s2, D2, R2, b1, b2, b3, b4, b5⟩ | ⟨t, t', D', R', b1, b2, b3, b4⟩
    · rcases bit (N + 2) (S + Z 2037 + Z 2039) s2 r2 c2 x2 9998 9998 2 D2 R2 (nI 7) (0 + zo_shl 1 (nI 0) + zo_shl 1 (nI 1)) (by omega) (by omega) (by omega) b3 b5 ⟨7, rfl, by omega, trivial⟩ 7 rfl (by omega) (by omega) (by omega) with ⟨r3, c3, x3, s3, D3, R3, d1, d2, d3, d4, d5⟩ | ⟨t, t', D', R', d1, d2, d3, d4⟩
      · rcases bit (N + 3) (S + Z 2037 + Z 2039 + Z 2043) s3 r3 c3 x3 9997 9997 3 D3 R3 (nI 15) (0 + zo_shl 1 (nI 0) + zo_shl 1 (nI 1) + zo_shl 1 (nI 2)) (by omega) (by omega) (by omega) d3 d5 ⟨15, rfl, by omega, trivial⟩ 15 rfl (by omega) (by omega) (by omega) with ⟨r4, c4, x4, s4, D4, R4, f1, f2, f3, f4, f5⟩ | ⟨t, t', D', R', f1, f2, f3, f4⟩
        · left
          refine ⟨r4, c4, x4, s4, D4, R4, C0 _ ?_, R0 _ ?_, f3, a4.trans (b4.trans (d4.trans f4)), ?_⟩
          · rw [show g_Mdl_codeTreeBackwards_s_9 2036 4 w 10000 1 0 0 D = g_Mdl_codeTreeBackwards_s_9 2036 4 w 10000 1 0 (nI 0) D from rfl, a1]
            show g_Mdl_codeTreeBackwards_s_9 2036 4 w 9999 (nI 3) (0 + zo_shl 1 (nI 0)) (nI 1) D1 = _
            rw [b1]
            show g_Mdl_codeTreeBackwards_s_9 2036 4 w 9998 (nI 7) (0 + zo_shl 1 (nI 0) + zo_shl 1 (nI 1)) (nI 2) D2 = _
            rw [d1]
            show g_Mdl_codeTreeBackwards_s_9 2036 4 w 9997 (nI 15) (0 + zo_shl 1 (nI 0) + zo_shl 1 (nI 1) + zo_shl 1 (nI 2)) (nI 3) D3 = _
            rw [f1]
            show g_Mdl_codeTreeBackwards_s_9 2036 4 w (9995 + 1) _ _ (nI 4) D4 = _
            rw [g_Mdl_codeTreeBackwards_s_9, if_pos (by decide)]
            rfl
          · rw [show g_R_backwards_8 8312 4 10000 1 0 0 R = g_R_backwards_8 8312 4 10000 1 0 (nI 0) R from rfl, a2]
            show g_R_backwards_8 8312 4 9999 (nI 3) (0 + zo_shl 1 (nI 0)) (nI 1) R1 = _
            rw [b2]
            show g_R_backwards_8 8312 4 9998 (nI 7) (0 + zo_shl 1 (nI 0) + zo_shl 1 (nI 1)) (nI 2) R2 = _
            rw [d2]
            show g_R_backwards_8 8312 4 9997 (nI 15) (0 + zo_shl 1 (nI 0) + zo_shl 1 (nI 1) + zo_shl 1 (nI 2)) (nI 3) R3 = _
            rw [f2]
            show g_R_backwards_8 8312 4 (9995 + 1) _ _ (nI 4) R4 = _
            rw [g_R_backwards_8, if_pos (by decide)]
            rfl
          · rw [ht, show S + (Z 2037 + Z 2039 + Z 2043 + Z 2051) = S + Z 2037 + Z 2039 + Z 2043 + Z 2051 by omega]
            exact f5
        · right
          refine ⟨t, t', D', R', C0 _ ?_, R0 _ ?_, f3, a4.trans (b4.trans (d4.trans f4))⟩
          · rw [show g_Mdl_codeTreeBackwards_s_9 2036 4 w 10000 1 0 0 D = g_Mdl_codeTreeBackwards_s_9 2036 4 w 10000 1 0 (nI 0) D from rfl, a1]
            show g_Mdl_codeTreeBackwards_s_9 2036 4 w 9999 (nI 3) (0 + zo_shl 1 (nI 0)) (nI 1) D1 = _
            rw [b1]
            show g_Mdl_codeTreeBackwards_s_9 2036 4 w 9998 (nI 7) (0 + zo_shl 1 (nI 0) + zo_shl 1 (nI 1)) (nI 2) D2 = _
            rw [d1]
            exact f1
          · rw [show g_R_backwards_8 8312 4 10000 1 0 0 R = g_R_backwards_8 8312 4 10000 1 0 (nI 0) R from rfl, a2]
            show g_R_backwards_8 8312 4 9999 (nI 3) (0 + zo_shl 1 (nI 0)) (nI 1) R1 = _
            rw [b2]
            show g_R_backwards_8 8312 4 9998 (nI 7) (0 + zo_shl 1 (nI 0) + zo_shl 1 (nI 1)) (nI 2) R2 = _
            rw [d2]
            exact f2
      · right
        refine ⟨t, t', D', R', C0 _ ?_, R0 _ ?_, d3, a4.trans (b4.trans d4)⟩
        · rw [show g_Mdl_codeTreeBackwards_s_9 2036 4 w 10000 1 0 0 D = g_Mdl_codeTreeBackwards_s_9 2036 4 w 10000 1 0 (nI 0) D from rfl, a1]
          show g_Mdl_codeTreeBackwards_s_9 2036 4 w 9999 (nI 3) (0 + zo_shl 1 (nI 0)) (nI 1) D1 = _
          rw [b1]
          exact d1
        · rw [show g_R_backwards_8 8312 4 10000 1 0 0 R = g_R_backwards_8 8312 4 10000 1 0 (nI 0) R from rfl, a2]
          show g_R_backwards_8 8312 4 9999 (nI 3) (0 + zo_shl 1 (nI 0)) (nI 1) R1 = _
          rw [b2]
          exact d2
    · right
      refine ⟨t, t', D', R', C0 _ ?_, R0 _ ?_, b3, a4.trans b4⟩
      · rw [show g_Mdl_codeTreeBackwards_s_9 2036 4 w 10000 1 0 0 D = g_Mdl_codeTreeBackwards_s_9 2036 4 w 10000 1 0 (nI 0) D from rfl, a1]
        exact b1
      · rw [show g_R_backwards_8 8312 4 10000 1 0 0 R = g_R_backwards_8 8312 4 10000 1 0 (nI 0) R from rfl, a2]
        exact b2
  · exact Or.inr ⟨t, t', D', R', C0 _ a1, R0 _ a2, a3, a4⟩
