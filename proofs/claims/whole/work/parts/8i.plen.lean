theorem p_len {n L lc lp pb st base base' q len : Nat} {D R : zx_D} (hc : lc + lp ≤ 3) (hq : q < 16) (hbl : base + 514 ≤ 2052) (hb : ∀ i, i < 514 → zf (base + i) = base' + i) (hl2 : 2 ≤ len) (hl : len ≤ 273) (h79 : zg_i D 7 9 = nI len) (h : zE2 n L lc lp pb st D R) : ∃ D' R', g_Mdl_codeLength_k (nI base) (nI q) D = some (nI len, D') ∧ g_R_putLength (nI base') (nI len) (nI q) R = some R' ∧ zE2 n L lc lp pb st D' R' ∧ zH D D' R R' := by
  have pw : 0 < 2 ^ (lc + lp) := Nat.two_pow_pos _
  have z1 : ¬ (1 : Int32) = 0 := by decide
  have hb0 : zf base = base' := by
    have := hb 0 (by omega)
    rw [Nat.add_zero, Nat.add_zero] at this
    exact this
  have l10 : ((10 : Int32) ≤ nI len) = (10 ≤ len) := propext (y_le (a := 10) (by omega) (by omega))
  have l18 : ((18 : Int32) ≤ nI len) = (18 ≤ len) := propext (y_le (a := 18) (by omega) (by omega))
  by_cases t10 : 10 ≤ len
  · obtain ⟨D1, R1, t1, t2, t3, t4⟩ := p_bit2 (k := base) (x := 1) hc h (by omega) (by omega)
    rw [hb0] at t2
    have t1 : g_Snk_codeBit (nI base) 1 D = some (1, D1) := t1
    have t2 : g_R_put (nI base') 1 R = some R1 := t2
    have e79 : zg_i D1 7 9 = nI len := (t4.c 7 9 (by omega) (by omega) (by omega)).trans h79
    by_cases t18 : 18 ≤ len
    · obtain ⟨D2, R2, u1, u2, u3, u4⟩ := p_bit2 (k := base + 1) (x := 1) hc t3 (by omega) (by omega)
      rw [hb 1 (by omega)] at u2
      have u1 : g_Snk_codeBit (nI (base + 1)) 1 D1 = some (1, D2) := u1
      have u2 : g_R_put (nI (base' + 1)) 1 R1 = some R2 := u2
      have e79' : zg_i D2 7 9 = nI len := (u4.c 7 9 (by omega) (by omega) (by omega)).trans e79
      obtain ⟨D3, R3, v1, v2, v3, v4⟩ := p_tree (base := base + 258) (base' := base' + 258) (kk := 8) (w := len - 18) hc (by omega) (by omega) (by omega) (fun v hv => by rw [show base + 258 + v = base + (258 + v) by omega, hb (258 + v) (by omega)]; omega) u3
      have v1 : g_Mdl_codeTree_k (nI (base + 258)) 8 (nI (len - 18)) D2 = some (nI (len - 18), D3) := v1
      have v2 : g_R_putTree (nI (base' + 258)) 8 (nI (len - 18)) R2 = some R3 := v2
      have i1 : nI base + 258 = nI (base + 258) := y_add _ 258
      have i2 : nI base' + 258 = nI (base' + 258) := y_add _ 258
      have i3 : nI len - 18 = nI (len - 18) := y_sub (b := 18) t18
      have i4 : 18 + nI (len - 18) = nI len := by
        rw [show (18 : Int32) = nI 18 from rfl, y_add, show 18 + (len - 18) = len by omega]
      refine ⟨D3, R3, ?_, ?_, v3, t4.trans (u4.trans v4)⟩
      · simp only [g_Mdl_codeLength_k, h79, l10, t10, t1, z1, e79, l18, t18, y_1, u1, e79', i1, i3, v1, i4, o_sb, ↓reduceIte, not_false_eq_true]
      · simp only [g_R_putLength, l10, t10, t2, l18, t18, y_1, u2, i2, i3, v2, o_sb, ↓reduceIte]
    · obtain ⟨D2, R2, u1, u2, u3, u4⟩ := p_bit2 (k := base + 1) (x := 0) hc t3 (by omega) (by omega)
      rw [hb 1 (by omega)] at u2
      have u1 : g_Snk_codeBit (nI (base + 1)) 0 D1 = some (0, D2) := u1
      have u2 : g_R_put (nI (base' + 1)) 0 R1 = some R2 := u2
      have e79' : zg_i D2 7 9 = nI len := (u4.c 7 9 (by omega) (by omega) (by omega)).trans e79
      obtain ⟨D3, R3, v1, v2, v3, v4⟩ := p_tree (base := base + 130 + 8 * q) (base' := base' + 130 + 8 * q) (kk := 3) (w := len - 10) hc (by omega) (by omega) (by omega) (fun v hv => by rw [show base + 130 + 8 * q + v = base + (130 + 8 * q + v) by omega, hb (130 + 8 * q + v) (by omega)]; omega) u3
      have v1 : g_Mdl_codeTree_k (nI (base + 130 + 8 * q)) 3 (nI (len - 10)) D2 = some (nI (len - 10), D3) := v1
      have v2 : g_R_putTree (nI (base' + 130 + 8 * q)) 3 (nI (len - 10)) R2 = some R3 := v2
      have i1 : nI base + 130 + 8 * nI q = nI (base + 130 + 8 * q) := by rw [show (8 : Int32) = nI 8 from rfl, y_mul, show (130 : Int32) = nI 130 from rfl, y_add, y_add]
      have i2 : nI base' + 130 + 8 * nI q = nI (base' + 130 + 8 * q) := by rw [show (8 : Int32) = nI 8 from rfl, y_mul, show (130 : Int32) = nI 130 from rfl, y_add, y_add]
      have i3 : nI len - 10 = nI (len - 10) := y_sub (b := 10) t10
      have i4 : 10 + nI (len - 10) = nI len := by
        rw [show (10 : Int32) = nI 10 from rfl, y_add, show 10 + (len - 10) = len by omega]
      refine ⟨D3, R3, ?_, ?_, v3, t4.trans (u4.trans v4)⟩
      · simp only [g_Mdl_codeLength_k, h79, l10, t10, t1, z1, e79, l18, t18, y_1, u1, e79', i1, i3, v1, i4, o_sb, ↓reduceIte, not_false_eq_true, not_true_eq_false]
      · simp only [g_R_putLength, l10, t10, t2, l18, t18, y_1, u2, i2, i3, v2, o_sb, ↓reduceIte]
  · obtain ⟨D1, R1, t1, t2, t3, t4⟩ := p_bit2 (k := base) (x := 0) hc h (by omega) (by omega)
    rw [hb0] at t2
    have t1 : g_Snk_codeBit (nI base) 0 D = some (0, D1) := t1
    have t2 : g_R_put (nI base') 0 R = some R1 := t2
    have e79 : zg_i D1 7 9 = nI len := (t4.c 7 9 (by omega) (by omega) (by omega)).trans h79
    obtain ⟨D3, R3, v1, v2, v3, v4⟩ := p_tree (base := base + 2 + 8 * q) (base' := base' + 2 + 8 * q) (kk := 3) (w := len - 2) hc (by omega) (by omega) (by omega) (fun v hv => by rw [show base + 2 + 8 * q + v = base + (2 + 8 * q + v) by omega, hb (2 + 8 * q + v) (by omega)]; omega) t3
    have v1 : g_Mdl_codeTree_k (nI (base + 2 + 8 * q)) 3 (nI (len - 2)) D1 = some (nI (len - 2), D3) := v1
    have v2 : g_R_putTree (nI (base' + 2 + 8 * q)) 3 (nI (len - 2)) R1 = some R3 := v2
    have i1 : nI base + 2 + 8 * nI q = nI (base + 2 + 8 * q) := by rw [show (8 : Int32) = nI 8 from rfl, y_mul, show (2 : Int32) = nI 2 from rfl, y_add, y_add]
    have i2 : nI base' + 2 + 8 * nI q = nI (base' + 2 + 8 * q) := by rw [show (8 : Int32) = nI 8 from rfl, y_mul, show (2 : Int32) = nI 2 from rfl, y_add, y_add]
    have i3 : nI len - 2 = nI (len - 2) := y_sub (b := 2) hl2
    have i4 : 2 + nI (len - 2) = nI len := by
      rw [show (2 : Int32) = nI 2 from rfl, y_add, show 2 + (len - 2) = len by omega]
    refine ⟨D3, R3, ?_, ?_, v3, t4.trans v4⟩
    · simp only [g_Mdl_codeLength_k, h79, l10, t10, t1, e79, i1, i3, v1, i4, o_sb, ↓reduceIte, not_true_eq_false]
    · simp only [g_R_putLength, l10, t10, t2, i2, i3, v2, o_sb, ↓reduceIte]
def zslot (z : Nat) : Nat := if z < 4 then z else 2 * Nat.log2 z + z / 2 ^ (Nat.log2 z - 1) % 2
def zD0 : zx_D := (fun _ _ => 0, fun _ _ => 0)
theorem c_slotD (x : Int64) (D E : zx_D) : g_Mdl_slotOf x D = g_Mdl_slotOf x E := rfl
theorem c_slotE {z : Nat} (h : z < 400) (D : zx_D) : g_Mdl_slotOf (nL (z + 1)) D = some (nI (zslot z)) := by
  have key : ∀ z < 400, g_Mdl_slotOf (nL (z + 1)) zD0 = some (nI (zslot z)) := by decide +kernel
  rw [c_slotD _ D zD0]
  exact key z h
theorem r_topD (x2 y2 z : Int32) (D E : zx_D) : ∀ (k : Nat) (i : Int32), g_R_putCopy_78 x2 z D k i = g_R_putCopy_78 y2 z E k i
  | 0, _ => rfl
  | k + 1, i => by
    rw [g_R_putCopy_78, g_R_putCopy_78, r_topD x2 y2 z D E k (i + 1)]
theorem r_top {z : Nat} (h : z < 400) (x2 : Int32) (D : zx_D) : g_R_putCopy_78 x2 (nI z) D 10000 0 = some (nI (if z = 0 then 0 else Nat.log2 z)) := by
  have key : ∀ z < 400, g_R_putCopy_78 0 (nI z) zD0 10000 0 = some (nI (if z = 0 then 0 else Nat.log2 z)) := by decide +kernel
  rw [r_topD x2 0 (nI z) D zD0]
  exact key z h
theorem slot_facts {z : Nat} (h : z < 400) (h4 : 4 ≤ z) : zslot z < 18 ∧ 4 ≤ zslot z ∧ Nat.log2 z = zslot z / 2 ∧ (2 + zslot z % 2) * 2 ^ (zslot z / 2 - 1) ≤ z ∧ z < (2 + zslot z % 2) * 2 ^ (zslot z / 2 - 1) + 2 ^ (zslot z / 2 - 1) ∧ nI z &&& (zo_shl 1 (nI (Nat.log2 z - 1)) - 1) = nI (z - (2 + zslot z % 2) * 2 ^ (zslot z / 2 - 1)) ∧ zo_shr (nI z) (nI (Nat.log2 z - 1)) &&& 1 = nI (z / 2 ^ (Nat.log2 z - 1) % 2) := by
  have key : ∀ z < 400, 4 ≤ z → zslot z < 18 ∧ 4 ≤ zslot z ∧ Nat.log2 z = zslot z / 2 ∧ (2 + zslot z % 2) * 2 ^ (zslot z / 2 - 1) ≤ z ∧ z < (2 + zslot z % 2) * 2 ^ (zslot z / 2 - 1) + 2 ^ (zslot z / 2 - 1) ∧ nI z &&& (zo_shl 1 (nI (Nat.log2 z - 1)) - 1) = nI (z - (2 + zslot z % 2) * 2 ^ (zslot z / 2 - 1)) ∧ zo_shr (nI z) (nI (Nat.log2 z - 1)) &&& 1 = nI (z / 2 ^ (Nat.log2 z - 1) % 2) := by decide +kernel
  exact key z h h4
theorem v_ubit {a i : Nat} (ha : a < 256) (hi : i < 8) : (zo_lushr (nL a) (nI i)).toInt32 &&& 1 = nI (a / 2 ^ i % 2) := by
  have key : ∀ a < 256, ∀ i < 8, (zo_lushr (nL a) (nI i)).toInt32 &&& 1 = nI (a / 2 ^ i % 2) := by decide +kernel
  exact key a ha i hi
theorem p_evens {n L lc lp pb st rest : Nat} (x3 : Int64) (hr : rest < 256) : ∀ (j k1 k2 : Nat) (D R : zx_D), j ≤ 3 → j < k1 → j < k2 → zE2 n L lc lp pb st D R →
    ∃ D' R', g_Mdl_codeDistance_k_106 x3 (nL rest) k1 (nL (rest / 2 ^ (4 + j))) (nI (3 + j)) D = some (nL (rest / 16), D') ∧ g_R_putCopy_219 (nI rest) k2 (nI (3 + j)) R = some R' ∧ zE2 n L lc lp pb st D' R' ∧ zH D D' R R'
  | 0, k1 + 1, k2 + 1, D, R, _, _, _, h => by
    exact ⟨D, R, by rw [g_Mdl_codeDistance_k_106, if_pos (by decide)], by rw [g_R_putCopy_219, if_pos (by decide)], h, zH_rfl⟩
  | j + 1, k1 + 1, k2 + 1, D, R, hj, h1, h2, h => by
    have e1 : ¬ nI (3 + (j + 1)) < 4 := fun q => by have := (y_lt (b := 4) (by omega) (by omega)).mp q; omega
    have e2 : ¬ nI (3 + (j + 1)) ≤ 3 := fun q => by have := (y_le (b := 3) (by omega) (by omega)).mp q; omega
    have e3 : nI (3 + (j + 1)) + (-1) = nI (3 + j) := by
      rw [← Int32.sub_eq_add_neg]
      exact y_sub (a := 3 + (j + 1)) (b := 1) (by omega)
    have eb : (zo_lushr (nL rest) (nI (3 + (j + 1)))).toInt32 &&& 1 = nI (rest / 2 ^ (3 + (j + 1)) % 2) := v_ubit hr (by omega)
    have es : zo_shr (nI rest) (nI (3 + (j + 1))) &&& 1 = nI (rest / 2 ^ (3 + (j + 1)) % 2) := by
      rw [y_sbit hr (by omega)]
      exact y_ubit hr (by omega)
    have hb : rest / 2 ^ (3 + (j + 1)) % 2 ≤ 1 := by omega
    obtain ⟨D1, R1, t1, t2, t3, t4⟩ := p_even2 (x := rest / 2 ^ (3 + (j + 1)) % 2) h hb
    obtain ⟨D', R', u1, u2, u3, u4⟩ := p_evens x3 hr j k1 k2 D1 R1 (by omega) (by omega) (by omega) t3
    refine ⟨D', R', ?_, ?_, u3, t4.trans u4⟩
    · rw [g_Mdl_codeDistance_k_106, if_neg e1, eb, t1, o_sb]
      show g_Mdl_codeDistance_k_106 x3 (nL rest) k1 (2 * nL (rest / 2 ^ (4 + (j + 1))) + (nI (rest / 2 ^ (3 + (j + 1)) % 2)).toInt64) (nI (3 + (j + 1)) + -1) D1 = _
      rw [v_dbl _ _ hb, e3]
      have := dv_bit rest (3 + (j + 1))
      rw [show 3 + (j + 1) + 1 = 4 + (j + 1) by omega] at this
      rw [← this, show 3 + (j + 1) = 4 + j by omega]
      exact u1
    · rw [g_R_putCopy_219, if_neg e2, es, t2, o_sb, e3]
      exact u2
def r_pdist (x1 x2 : Int32) (q3 : zx_D) : Option zx_D :=
  (g_R_putCopy_78 x2 (x1 - 1) q3 10000 0).bind fun q4 =>
  ((
    if 4 ≤ x1 - 1 then
      some ((2 * q4) + ((zo_shr (x1 - 1) (q4 - 1)) &&& 1))
    else
      some (x1 - 1)
  ) : Option (Int32)).bind fun q5 =>
  ((
    if 5 ≤ x2 then
      some 3
    else
      some (x2 - 2)
  ) : Option (Int32)).bind fun q6 =>
  (g_R_putTree (7608 + (64 * q6)) 6 q5 q3).bind fun q7 =>
  ((
    if 4 ≤ x1 - 1 then
      some ((x1 - 1) &&& ((zo_shl 1 (q4 - 1)) - 1))
    else
      some 0
  ) : Option (Int32)).bind fun q8 =>
  ((
    if q5 ≤ 3 then
      some q7
    else
      if 14 ≤ q5 then
        some q7
      else
        (g_R_putBackwards ((7864 + (32 * q5)) - 128) (q4 - 1) q8 q7).bind fun q9 =>
        some q9
  ) : Option (zx_D)).bind fun q10 =>
  if q5 ≤ 13 then
    some q10
  else
    (g_R_putCopy_219 q8 10000 (q4 - 2) q10).bind fun q12 =>
    g_R_putBackwards 8312 4 (q8 &&& 15) q12
theorem p_dist {n L lc lp pb st len d : Nat} {D R : zx_D} (hc : lc + lp ≤ 3) (hl2 : 2 ≤ len) (hl : len ≤ 273) (h79 : zg_i D 7 9 = nI len) (hd1 : 1 ≤ d) (hd : d ≤ 400) (h710 : zg_l D 7 10 = nL d) (h : zE2 n L lc lp pb st D R) : ∃ D' R', g_Mdl_codeDistance_k D = some (nL d, D') ∧ r_pdist (nI d) (nI len) R = some R' ∧ zE2 n L lc lp pb st D' R' ∧ zH D D' R R' := by
  have pw : 0 < 2 ^ (lc + lp) := Nat.two_pow_pos _
  obtain ⟨z, hz⟩ : ∃ z, d = z + 1 := ⟨d - 1, by omega⟩
  subst hz
  have hz4 : z < 400 := by omega
  have ez : nI (z + 1) - 1 = nI z := y_sub (a := z + 1) (b := 1) (by omega)
  have evz : nL (z + 1) - 1 = nL z := v_sub (a := z + 1) (b := 1) (by omega)
  have wq := c_slotE hz4 D
  have wt := r_top hz4 (nI len) R
  obtain ⟨i, hi, hiC, hiR⟩ : ∃ i, i ≤ 3 ∧ (if (3 : Int32) < nI len - 2 then 3 else nI len - 2) = nI i ∧ ((if 5 ≤ nI len then some 3 else some (nI len - 2)) : Option Int32) = some (nI i) := by
    have e2 : nI len - 2 = nI (len - 2) := y_sub (b := 2) hl2
    by_cases t : 5 ≤ len
    · have t2 : (5 : Int32) ≤ nI len := (y_le (a := 5) (by omega) (by omega)).mpr t
      refine ⟨3, by omega, ?_, by rw [if_pos t2]; rfl⟩
      rw [e2]
      by_cases u : 3 < len - 2
      · rw [if_pos (show (3 : Int32) < nI (len - 2) from (y_lt (a := 3) (by omega) (by omega)).mpr u)]
        rfl
      · rw [if_neg (show ¬ (3 : Int32) < nI (len - 2) from fun q => u ((y_lt (a := 3) (by omega) (by omega)).mp q)), show len - 2 = 3 by omega]
    · have t2 : ¬ (5 : Int32) ≤ nI len := fun q => t ((y_le (a := 5) (by omega) (by omega)).mp q)
      refine ⟨len - 2, by omega, ?_, by rw [if_neg t2, e2]⟩
      rw [e2, if_neg (show ¬ (3 : Int32) < nI (len - 2) from fun q => by have := (y_lt (a := 3) (by omega) (by omega)).mp q; omega)]
  have bC : 1460 + 64 * nI i = nI (1460 + 64 * i) := by rw [show (64 : Int32) = nI 64 from rfl, y_mul, show (1460 : Int32) = nI 1460 from rfl, y_add]
  have bR : 7608 + 64 * nI i = nI (7608 + 64 * i) := by rw [show (64 : Int32) = nI 64 from rfl, y_mul, show (7608 : Int32) = nI 7608 from rfl, y_add]
  obtain ⟨s, hs⟩ : ∃ s, s = zslot z := ⟨_, rfl⟩
  rw [← hs] at wq
  have hs64 : s < 64 := by
    by_cases t : 4 ≤ z
    · have := (slot_facts hz4 t).1
      omega
    · rw [hs]
      unfold zslot
      rw [if_pos (by omega)]
      omega
  obtain ⟨D1, R1, t1, t2, t3, t4⟩ := p_tree (base := 1460 + 64 * i) (base' := 7608 + 64 * i) (kk := 6) (w := s) hc (by omega) (by omega) (by omega) (fun v hv => by rw [show 1460 + 64 * i + v = 1460 + (64 * i + v) by omega, zf_slot (by omega)]; omega) h
  have t1 : g_Mdl_codeTree_k (nI (1460 + 64 * i)) 6 (nI s) D = some (nI s, D1) := t1
  have t2 : g_R_putTree (nI (7608 + 64 * i)) 6 (nI s) R = some R1 := t2
  have e710 : zg_l D1 7 10 = nL (z + 1) := (t4.cl 7 10 (by omega)).trans h710
  by_cases h4 : 4 ≤ z
  · obtain ⟨f1, f2, f3, f4, f5, f6, f7⟩ := slot_facts hz4 h4
    rw [← hs] at f1 f2 f3 f4 f5 f6
    obtain ⟨kk, hkk⟩ : ∃ kk, kk = s / 2 - 1 := ⟨_, rfl⟩
    obtain ⟨yy, hyy⟩ : ∃ yy, yy = (2 + s % 2) * 2 ^ (s / 2 - 1) := ⟨_, rfl⟩
    have hk7 : kk ≤ 7 := by omega
    have p2k : 2 ^ kk ≤ 2 ^ 7 := Nat.pow_le_pow_right (by omega) hk7
    rw [← hyy] at f4 f6
    rw [← hyy, ← hkk] at f5
    obtain ⟨rest, hrest⟩ : ∃ rest, rest = z - yy := ⟨_, rfl⟩
    rw [← hrest] at f6
    have hr : rest < 2 ^ kk := by omega
    have l4 : (4 : Int32) ≤ nI z := (y_le (a := 4) (by omega) (by omega)).mpr h4
    have ls4 : (4 : Int32) ≤ nI s := (y_le (a := 4) (by omega) (by omega)).mpr f2
    have lr : Nat.log2 z = kk + 1 := by omega
    have wt' : g_R_putCopy_78 (nI len) (nI z) R 10000 0 = some (nI (kk + 1)) := by
      rw [wt, if_neg (by omega), lr]
    have eq5 : 2 * nI (kk + 1) + (zo_shr (nI z) (nI kk) &&& 1) = nI s := by
      have e0 : nI kk = nI (kk + 1 - 1) := by rw [show kk + 1 - 1 = kk by omega]
      rw [lr] at f7
      rw [e0, f7, show (2 : Int32) = nI 2 from rfl, y_mul, y_add]
      congr 1
      have e1 : s = 2 * Nat.log2 z + z / 2 ^ (Nat.log2 z - 1) % 2 := by
        rw [hs]
        unfold zslot
        rw [if_neg (by omega)]
      rw [lr] at e1
      omega
    have eq8 : nI z &&& (zo_shl 1 (nI kk) - 1) = nI rest := by
      have e0 : nI kk = nI (Nat.log2 z - 1) := by
        rw [lr, show kk + 1 - 1 = kk by omega]
      rw [e0]
      exact f6
    have k1 : nI s / 2 - 1 = nI kk := by
      rw [show (2 : Int32) = nI 2 from rfl, y_div (by omega) (by omega), hkk]
      exact y_sub (a := s / 2) (b := 1) (by omega)
    have rm : zo_rem (nI s) 2 = nI (s % 2) := y_rem (b := 2) (by omega) (by omega)
    have y1 : zo_lshl (2 + (nI (s % 2)).toInt64) (nI kk) = nL yy := by
      rw [v_of (by omega), show (2 : Int64) = nL 2 from rfl, v_add, v_lshl (by omega) (by omega), hyy, hkk]
    have erC : nL z - nL yy = nL rest := by rw [v_sub f4, hrest]
    have k3 : nI (kk + 1) - 1 = nI kk := y_sub (a := kk + 1) (b := 1) (by omega)
    by_cases h14 : 14 ≤ s
    · have l14 : (14 : Int32) ≤ nI s := (y_le (a := 14) (by omega) (by omega)).mpr h14
      have l13 : ¬ nI s ≤ 13 := fun q => by have := (y_le (b := 13) (by omega) (by omega)).mp q; omega
      have l3 : ¬ nI s ≤ 3 := fun q => by have := (y_le (b := 3) (by omega) (by omega)).mp q; omega
      have k2 : nI kk - 1 = nI (3 + (kk - 4)) := by
        rw [show 3 + (kk - 4) = kk - 1 by omega]
        exact y_sub (a := kk) (b := 1) (by omega)
      have k4 : nI (kk + 1) - 2 = nI (3 + (kk - 4)) := by
        rw [show 3 + (kk - 4) = kk + 1 - 2 by omega]
        exact y_sub (a := kk + 1) (b := 2) (by omega)
      obtain ⟨D2, R2, u1, u2, u3, u4⟩ := p_evens (rest := rest) (nL yy) (by omega) (kk - 4) 10000 10000 D1 R1 (by omega) (by omega) (by omega) t3
      rw [show 4 + (kk - 4) = kk by omega, Nat.div_eq_of_lt hr] at u1
      have u1 : g_Mdl_codeDistance_k_106 (nL yy) (nL rest) 10000 0 (nI (3 + (kk - 4))) D1 = some (nL (rest / 16), D2) := u1
      have q15 : nI rest &&& 15 = nI (rest % 16) := by
        have := y_mask (p := rest) (k := 4) (by omega) (by omega)
        exact this
      obtain ⟨D3, R3, v1, v2, v3, v4⟩ := p_back (base := 2036) (base' := 8312) (kk := 4) (w := rest) (w' := rest % 16) hc (by omega) (by omega) (by omega) (by omega) (fun j hj => by
        have hj' : j = 0 ∨ j = 1 ∨ j = 2 ∨ j = 3 := by omega
        rcases hj' with rfl | rfl | rfl | rfl <;> simp only [Nat.pow_zero, Nat.pow_one, Nat.reducePow] <;> omega) (fun v hv => zf_far (by omega)) u3
      have v1 : g_Mdl_codeTreeBackwards_k 2036 4 (nI rest) D2 = some (nI (rest % 16), D3) := v1
      have v2 : g_R_putBackwards 8312 4 (nI (rest % 16)) R2 = some R3 := v2
      have fin : nL yy + 1 + 16 * nL (rest / 16) + (nI (rest % 16)).toInt64 = nL (z + 1) := by
        rw [v_of (by omega), show (16 : Int64) = nL 16 from rfl, v_mul, show (1 : Int64) = nL 1 from rfl, v_add, v_add, v_add]
        congr 1
        omega
      refine ⟨D3, R3, ?_, ?_, v3, t4.trans (u4.trans v4)⟩
      · simp only [g_Mdl_codeDistance_k, h710, wq, h79, hiC, bC, t1, ls4, l14, rm, k1, y1, e710, evz, erC, k2, u1, v_to, v1, fin, o_sb, ↓reduceIte]
      · simp only [r_pdist, ez, wt', l4, k3, eq5, hiR, bR, t2, eq8, l3, l14, l13, k4, u2, q15, v2, o_sb, ↓reduceIte]
    · have l14 : ¬ (14 : Int32) ≤ nI s := fun q => h14 ((y_le (a := 14) (by omega) (by omega)).mp q)
      have l13 : nI s ≤ 13 := (y_le (b := 13) (by omega) (by omega)).mpr (by omega)
      have l3 : ¬ nI s ≤ 3 := fun q => by have := (y_le (b := 3) (by omega) (by omega)).mp q; omega
      have i1 : 1716 + 32 * (nI s - 4) = nI (1716 + 32 * (s - 4)) := by
        rw [show nI s - 4 = nI (s - 4) from y_sub (b := 4) f2, show (32 : Int32) = nI 32 from rfl, y_mul, show (1716 : Int32) = nI 1716 from rfl, y_add]
      have i2 : 7864 + 32 * nI s - 128 = nI (7864 + 32 * (s - 4)) := by
        rw [show (32 : Int32) = nI 32 from rfl, y_mul, show (7864 : Int32) = nI 7864 from rfl, y_add]
        have e : nI (7864 + 32 * s) - nI 128 = nI (7864 + 32 * s - 128) := y_sub (by omega)
        rw [show (128 : Int32) = nI 128 from rfl, e, show 7864 + 32 * s - 128 = 7864 + 32 * (s - 4) by omega]
      have p5 : 2 ^ kk ≤ 2 ^ 5 := Nat.pow_le_pow_right (by omega) (by omega)
      obtain ⟨D3, R3, v1, v2, v3, v4⟩ := p_back (base := 1716 + 32 * (s - 4)) (base' := 7864 + 32 * (s - 4)) (kk := kk) (w := rest) (w' := rest) hc (by omega) (by omega) (by omega) (by omega) (fun j hj => rfl) (fun v hv => by rw [show 1716 + 32 * (s - 4) + v = 1716 + (32 * (s - 4) + v) by omega, zf_near (by omega)]; omega) t3
      rw [Nat.mod_eq_of_lt hr] at v1
      have fin : nL yy + 1 + (nI rest).toInt64 = nL (z + 1) := by
        rw [v_of (by omega), show (1 : Int64) = nL 1 from rfl, v_add, v_add]
        congr 1
        omega
      refine ⟨D3, R3, ?_, ?_, v3, t4.trans v4⟩
      · simp only [g_Mdl_codeDistance_k, h710, wq, h79, hiC, bC, t1, ls4, l14, rm, k1, y1, e710, evz, erC, i1, v_to, v1, fin, o_sb, ↓reduceIte]
      · simp only [r_pdist, ez, wt', l4, k3, eq5, hiR, bR, t2, eq8, l3, l14, l13, i2, v2, o_sb, ↓reduceIte]
  · have l4 : ¬ (4 : Int32) ≤ nI z := fun q => h4 ((y_le (a := 4) (by omega) (by omega)).mp q)
    have hsz : s = z := by
      rw [hs]
      unfold zslot
      rw [if_pos (by omega)]
    rw [hsz] at t1 t2 wq
    have l13 : nI z ≤ 13 := (y_le (b := 13) (by omega) (by omega)).mpr (by omega)
    have l3 : nI z ≤ 3 := (y_le (b := 3) (by omega) (by omega)).mpr (by omega)
    have f1 : (nI z + 1).toInt64 = nL (z + 1) := by rw [y_1, v_of (by omega)]
    refine ⟨D1, R1, ?_, ?_, t3, t4⟩
    · simp only [g_Mdl_codeDistance_k, h710, wq, h79, hiC, bC, t1, l4, f1, o_sb, ↓reduceIte]
    · simp only [r_pdist, ez, wt, l4, hiR, bR, t2, l3, l13, o_sb, ↓reduceIte]
