theorem c_f6 {N : Nat} (hN : N ≤ 8196) (x : Int32) : ∀ (j k i : Nat) (D : zx_D), i + j = N → j < k → ∃ D', g_Arr_fill3_6_10 (nI N) x k (nI i) D = some D' ∧ (∀ q, i ≤ q → q < N → zg_i D' 6 q = x) ∧ (∀ q, q < i → zg_i D' 6 q = zg_i D 6 q) ∧ (∀ p q, p ≠ 6 → zg_i D' p q = zg_i D p q) ∧ (∀ p q, zg_l D' p q = zg_l D p q)
  | 0, k + 1, i, D, hi, _ => by
    refine ⟨D, ?_, fun q h1 h2 => by omega, fun _ _ => rfl, fun _ _ _ => rfl, fun _ _ => rfl⟩
    rw [g_Arr_fill3_6_10, if_pos ((y_le (by omega) (by omega)).mpr (by omega))]
  | j + 1, k + 1, i, D, hi, hk => by
    obtain ⟨D', a1, a2, a3, a4, a5⟩ := c_f6 hN x j k (i + 1) (zp_i D 6 i x) (by omega) (by omega)
    refine ⟨D', ?_, fun q h1 h2 => ?_, fun q hq => ?_, fun p q hp => ?_, fun p q => a5 p q⟩
    · rw [g_Arr_fill3_6_10, if_neg (fun q => by have := (y_le (by omega) (by omega)).mp q; omega), if_pos (y_in (by omega) (by omega)), y_zn (by omega), y_1]
      exact a1
    · by_cases t : q = i
      · rw [a3 q (by omega), y_gi, if_pos ⟨rfl, t⟩]
      · exact a2 q (by omega) h2
    · rw [a3 q (by omega), y_gi, if_neg (by omega)]
    · rw [a4 p q hp, y_gi, if_neg (fun t => hp t.1)]
theorem r_f5 : ∀ (j k i : Nat) (R : zx_D), i + j = 8328 → j < k → ∃ R', g_R_anew_2 k (nI i) R = some R' ∧ (∀ q, i ≤ q → q < 8328 → zg_i R' 5 q = 1024) ∧ (∀ q, q < i → zg_i R' 5 q = zg_i R 5 q) ∧ (∀ p q, p ≠ 5 → zg_i R' p q = zg_i R p q) ∧ (∀ p q, zg_l R' p q = zg_l R p q)
  | 0, k + 1, i, R, hi, _ => by
    refine ⟨R, ?_, fun q h1 h2 => by omega, fun _ _ => rfl, fun _ _ _ => rfl, fun _ _ => rfl⟩
    rw [g_R_anew_2, if_pos (show (8328 : Int32) ≤ nI i from (y_le (a := 8328) (by omega) (by omega)).mpr (by omega))]
  | j + 1, k + 1, i, R, hi, hk => by
    obtain ⟨R', a1, a2, a3, a4, a5⟩ := r_f5 j k (i + 1) (zp_i R 5 i 1024) (by omega) (by omega)
    refine ⟨R', ?_, fun q h1 h2 => ?_, fun q hq => ?_, fun p q hp => ?_, fun p q => a5 p q⟩
    · rw [g_R_anew_2, if_neg (show ¬ (8328 : Int32) ≤ nI i from fun q => by have := (y_le (a := 8328) (by omega) (by omega)).mp q; omega), if_pos (y_in (by omega) (by omega)), y_zn (by omega), y_1]
      exact a1
    · by_cases t : q = i
      · rw [a3 q (by omega), y_gi, if_pos ⟨rfl, t⟩]
      · exact a2 q (by omega) h2
    · rw [a3 q (by omega), y_gi, if_neg (by omega)]
    · rw [a4 p q hp, y_gi, if_neg (fun t => hp t.1)]
theorem c_anew {lc lp : Nat} {D : zx_D} (hc : lc + lp ≤ 3) (h3 : zg_i D 7 3 = nI lc) (h4 : zg_i D 7 4 = nI lp) : ∃ D', g_Mdl_beginAnew D = some D' ∧ (∀ k, k < 2052 + 768 * 2 ^ (lc + lp) → zg_i D' 6 k = 1024) ∧ (∀ k, k < 4 → zg_l D' 8 k = 1) ∧ zg_i D' 7 2 = 0 ∧ (∀ p k, p ≠ 6 → ¬ (p = 7 ∧ k = 2) → zg_i D' p k = zg_i D p k) ∧ (∀ p k, p ≠ 8 → zg_l D' p k = zg_l D p k) := by
  have hl := pw_le hc
  have e1 : (2052 + zo_shl 768 (nI lc + nI lp) : Int32) = nI (2052 + 768 * 2 ^ (lc + lp)) := by
    rw [y_add]
    have hs : lc + lp = 0 ∨ lc + lp = 1 ∨ lc + lp = 2 ∨ lc + lp = 3 := by omega
    rcases hs with e | e | e | e <;> rw [e] <;> rfl
  obtain ⟨D1, a1, a2, a3, a4, a5⟩ := c_f6 hl 1024 (2052 + 768 * 2 ^ (lc + lp)) 10000 0 D (by omega) (by omega)
  have a1 : g_Arr_fill3_6_10 (nI (2052 + 768 * 2 ^ (lc + lp))) 1024 10000 0 D = some D1 := a1
  have rc : g_Arr_rangeCheck 8196 0 (nI (2052 + 768 * 2 ^ (lc + lp))) D = some () := by
    rw [g_Arr_rangeCheck, if_pos (show (0 : Int32) ≤ nI (2052 + 768 * 2 ^ (lc + lp)) from (y_le (a := 0) (by omega) (by omega)).mpr (by omega)), if_pos (by decide), if_pos (show nI (2052 + 768 * 2 ^ (lc + lp)) ≤ 8196 from (y_le (b := 8196) (by omega) (by omega)).mpr hl)]
  have f8 : g_Arr_fill_8 1 D1 = some (zp_l (zp_l (zp_l (zp_l D1 8 0 1) 8 1 1) 8 2 1) 8 3 1) := rfl
  refine ⟨zp_i (zp_l (zp_l (zp_l (zp_l D1 8 0 1) 8 1 1) 8 2 1) 8 3 1) 7 2 0, ?_, fun k hk => ?_, fun k hk => ?_, rfl, fun p k h1 h2 => ?_, fun p k h1 => ?_⟩
  · rw [g_Mdl_beginAnew, h3, h4, e1, g_Arr_fill3_6, rc, o_sb, a1, o_sb, o_sb, f8, o_sb]
  · exact a2 k (by omega) hk
  · have : k = 0 ∨ k = 1 ∨ k = 2 ∨ k = 3 := by omega
    rcases this with rfl | rfl | rfl | rfl <;> rfl
  · rw [y_gi, if_neg h2]
    exact a4 p k h1
  · simp [y_gl, y_li, h1, a5]
theorem r_anew (R : zx_D) : ∃ R', g_R_anew R = some R' ∧ (∀ k, k < 8328 → zg_i R' 5 k = 1024) ∧ (∀ k, 13 ≤ k → k ≤ 16 → zg_l R' 0 k = 1) ∧ zg_i R' 0 12 = 0 ∧ (∀ p k, p ≠ 5 → ¬ (p = 0 ∧ k = 12) → zg_i R' p k = zg_i R p k) ∧ (∀ k, k < 13 ∨ 16 < k → zg_l R' 0 k = zg_l R 0 k) := by
  obtain ⟨R1, a1, a2, a3, a4, a5⟩ := r_f5 8328 10000 0 R (by omega) (by omega)
  have a1 : g_R_anew_2 10000 0 R = some R1 := a1
  refine ⟨zp_l (zp_l (zp_l (zp_l (zp_i R1 0 12 0) 0 13 1) 0 14 1) 0 15 1) 0 16 1, ?_, fun k hk => ?_, fun k h1 h2 => ?_, rfl, fun p k h1 h2 => ?_, fun k h1 => ?_⟩
  · rw [g_R_anew, a1, o_sb]
  · exact a2 k (by omega) hk
  · have : k = 13 ∨ k = 14 ∨ k = 15 ∨ k = 16 := by omega
    rcases this with rfl | rfl | rfl | rfl <;> rfl
  · rw [y_il, y_il, y_il, y_il, y_gi, if_neg h2]
    exact a4 p k h1
  · simp [y_gl, y_li, show k ≠ 13 by omega, show k ≠ 14 by omega, show k ≠ 15 by omega, show k ≠ 16 by omega, a5]
theorem zMd_anew {g f lc lp pb : Nat} {D R : zx_D} (hc : lc + lp ≤ 3) (hp : pb ≤ 4) (c3 : zg_i D 7 3 = nI lc) (c4 : zg_i D 7 4 = nI lp) (c5 : zg_i D 7 5 = nI pb) (r9 : zg_i R 0 9 = nI lc) (r10 : zg_i R 0 10 = nI lp) (r11 : zg_i R 0 11 = nI pb)
    (hC : ∀ k, k < 2052 + 768 * 2 ^ (lc + lp) → zg_i D 6 k = 1024) (hR : ∀ k, k < 8328 → zg_i R 5 k = 1024) (h8 : ∀ k, k < 4 → zg_l D 8 k = 1) (hl : ∀ k, 13 ≤ k → k ≤ 16 → zg_l R 0 k = 1) (s2 : zg_i D 7 2 = 0) (s12 : zg_i R 0 12 = 0) : zMd g f D R := by
  have hl8 := pw_le hc
  have tz : ∀ A : List Nat, tot A (fun _ => 0) = 0 := by
    intro A
    unfold tot
    induction A with
    | nil => rfl
    | cons x A ih => rw [List.map_cons, List.sum_cons, ih]
  refine ⟨lc, lp, pb, 0, fun _ => 0, ⟨hc, hp, c3, r9, c4, r10, c5, r11, by omega, s2, s12, fun k hk => ⟨1024, by omega, by omega, hC k hk, hR (zf k) (zf_lt (by omega)), (show 1024 * 31 ^ 0 ≤ (2048 - 1024) * 32 ^ 0 by decide)⟩⟩, ⟨⟨1, by omega, by omega, h8 0 (by omega), hl 13 (by omega) (by omega)⟩, ⟨1, by omega, by omega, h8 1 (by omega), hl 14 (by omega) (by omega)⟩, ⟨1, by omega, by omega, h8 2 (by omega), hl 15 (by omega) (by omega)⟩, ⟨1, by omega, by omega, h8 3 (by omega), hl 16 (by omega) (by omega)⟩⟩, ?_, fun t => by omega⟩
  rw [tz, tz]
  omega
theorem c_clo0 {D : zx_D} (x : Int32) (h : ¬ zg_i D 12 4 = 0) : g_Unp_closeBlock x D = some D := by
  rw [g_Unp_closeBlock, c_snd0 h, o_sb]
  first
    | rw [if_pos rfl]
    | rw [if_neg (fun t => t rfl)]
theorem c_it0 {D : zx_D} (x1 : Int32) (k : Nat) (i : Int32) (r1 r2 : Nat) (h : ¬ zg_i D 12 4 = 0) : g_Unp_readBlock_46 x1 (k + 1) i r1 r2 D = some (r1, r2, D) := by
  rw [g_Unp_readBlock_46]
  by_cases t : (640 : Int32) ≤ i
  · rw [if_pos t, c_clo0 x1 h, o_sb]
  · rw [if_neg t, c_snd0 h, o_sb, if_pos rfl, c_clo0 x1 h, o_sb]
theorem s_ctl {n m g b a f c : Nat} {D R : zx_D} (h : zC n m g b a f D R) (ha : a < m) (hc : c < 256) (hC : zg_i D 4 a = nI c) (hR : zg_i R 2 a = nI c) :
    c = 0 ∨
    (g_Unp_isAllowed (zp_i D 9 15 (nI c)) = some 0 ∧ g_R_chunk R = some (0, zp_i (zp_i R 0 30 (nI a)) 0 29 (-3)) ∧ c ≠ 0) ∨
    (c ≠ 0 ∧ (c ≤ 2 ∨ 128 ≤ c) ∧ g_Unp_isAllowed (zp_i D 9 15 (nI c)) = some 1 ∧ (128 ≤ c → c < 192 → zg_i R 0 36 = 0) ∧
      ((g_R_chunk R = g_R_chunk_98 (nI c) 1 R ∧ (c = 1 ∨ 224 ≤ c)) ∨ (g_R_chunk R = g_R_chunk_98 (nI c) 0 R ∧ ¬ (c = 1 ∨ 224 ≤ c) ∧ zg_i R 0 35 = 1))) := by
  have hm := h.S.v.hm
  by_cases c0 : c = 0
  · exact Or.inl c0
  right
  have z1 : ¬ (1 : Int32) = 0 := by decide
  have hh := r_has1 h.S (k := 1) (by omega)
  have hh : g_R_has 1 R = some (1, R) := hh
  have zi0 : zk_in (nI a) 640 = true := y_in (by omega) (by omega)
  have zn0 : zn (nI a) = a := y_zn (by omega)
  have g15 : zg_i (zp_i D 9 15 (nI c)) 9 15 = nI c := rfl
  have g13 : zg_i (zp_i D 9 15 (nI c)) 9 13 = zg_i D 9 13 := rfl
  have g14 : zg_i (zp_i D 9 15 (nI c)) 9 14 = zg_i D 9 14 := rfl
  have hf3 : g_R_fail (-3) (nI a) R = some (zp_i (zp_i R 0 30 (nI a)) 0 29 (-3)) := r_fail1 _ _ h.S.f
  have n0 : ¬ nI c = 0 := fun q => c0 ((y_eq (b := 0) (by omega) (by omega)).mp q)
  have p0 : ¬ nI c ≤ 0 := fun q => by have := (y_le (b := 0) (by omega) (by omega)).mp q; omega
  have l2 : (nI c ≤ 2) = (c ≤ 2) := propext (y_le (b := 2) (by omega) (by omega))
  have l1 : (nI c = 1) = (c = 1) := propext (y_eq (b := 1) (by omega) (by omega))
  have l128 : (nI c < 128) = (c < 128) := propext (y_lt (b := 128) (by omega) (by omega))
  have l224 : (nI c < 224) = (c < 224) := propext (y_lt (b := 224) (by omega) (by omega))
  have l192 : ((192 : Int32) ≤ nI c) = (192 ≤ c) := propext (y_le (a := 192) (by omega) (by omega))
  by_cases c1 : c ≤ 2 ∨ 128 ≤ c
  · -- what both do where the first test passes
    have A0 : g_Unp_isAllowed (zp_i D 9 15 (nI c)) = g_Unp_isAllowed_27 (zp_i D 9 15 (nI c)) := by
      rw [g_Unp_isAllowed, g15, if_pos n0]
      simp only [l2, l128]
      by_cases t : c ≤ 2
      · rw [if_pos t]
      · rw [if_neg t, if_neg (by omega)]
    obtain ⟨e, he, hem⟩ : ∃ e : Int32, ((if nI c = 1 then some 1 else if nI c < 224 then some 0 else some 1) : Option Int32) = some e ∧ ((e = 1 ∧ (c = 1 ∨ 224 ≤ c)) ∨ (e = 0 ∧ ¬ (c = 1 ∨ 224 ≤ c))) := by
      simp only [l1, l224]
      by_cases t : c = 1
      · exact ⟨1, by rw [if_pos t], Or.inl ⟨rfl, Or.inl t⟩⟩
      · by_cases u : c < 224
        · exact ⟨0, by rw [if_neg t, if_pos u], Or.inr ⟨rfl, by omega⟩⟩
        · exact ⟨1, by rw [if_neg t, if_neg u], Or.inl ⟨rfl, by omega⟩⟩
    have R0 : g_R_chunk R = g_R_chunk_50 (nI c) e R := by
      rw [g_R_chunk, hh, o_sb]
      show (if ¬ (1 : Int32) = 0 then _ else _) = _
      rw [if_pos z1, h.S.nR, if_pos zi0, zn0, hR, he, o_sb]
      simp only [l2, l128]
      by_cases t : c ≤ 2
      · rw [if_pos t]
      · rw [if_neg t, if_neg (by omega)]
    have A1 : g_Unp_empties (zp_i D 9 15 (nI c)) = some e := by
      rw [g_Unp_empties, g15]
      exact he
    have key : (g_Unp_isAllowed_43 (zp_i D 9 15 (nI c)) = some 1 ∧ g_R_chunk_65 (nI c) e R = g_R_chunk_98 (nI c) e R ∧ (128 ≤ c → c < 192 → zg_i R 0 36 = 0)) ∨ (g_Unp_isAllowed_43 (zp_i D 9 15 (nI c)) = some 0 ∧ g_R_chunk_65 (nI c) e R = some (0, zp_i (zp_i R 0 30 (nI a)) 0 29 (-3))) := by
      rw [g_Unp_isAllowed_43, g_R_chunk_65, g15, g14]
      simp only [l128, l192]
      by_cases t : c < 128
      · rw [if_pos t, if_pos t]
        exact Or.inl ⟨rfl, rfl, fun u => by omega⟩
      · rw [if_neg t, if_neg t]
        by_cases u : 192 ≤ c
        · rw [if_pos u, if_pos u]
          exact Or.inl ⟨rfl, rfl, fun _ _ => by omega⟩
        · rw [if_neg u, if_neg u]
          have hb : (zg_i D 9 14 = 1 ∧ zg_i R 0 36 = 1) ∨ (zg_i D 9 14 = 0 ∧ zg_i R 0 36 = 0) := by
            rcases h.em with ⟨_, _, q1, q2⟩ | ⟨_, _, _, _, _, q⟩
            · exact Or.inl ⟨q1, q2⟩
            · rcases q with ⟨q1, q2⟩ | ⟨q1, q2, _⟩
              · exact Or.inl ⟨q1, q2⟩
              · exact Or.inr ⟨q1, q2⟩
          rcases hb with ⟨q1, q2⟩ | ⟨q1, q2⟩
          · rw [q1, q2, if_pos z1, if_neg z1, h.S.nR, hf3, o_sb]
            exact Or.inr ⟨rfl, rfl⟩
          · rw [q1, q2, if_neg (fun q => q rfl), if_pos rfl]
            exact Or.inl ⟨rfl, rfl, fun _ _ => rfl⟩
    have key2 : (g_Unp_isAllowed_27 (zp_i D 9 15 (nI c)) = g_Unp_isAllowed_43 (zp_i D 9 15 (nI c)) ∧ g_R_chunk_50 (nI c) e R = g_R_chunk_65 (nI c) e R ∧ (e = 0 → zg_i R 0 35 = 1)) ∨ (g_Unp_isAllowed_27 (zp_i D 9 15 (nI c)) = some 0 ∧ g_R_chunk_50 (nI c) e R = some (0, zp_i (zp_i R 0 30 (nI a)) 0 29 (-3))) := by
      rw [g_Unp_isAllowed_27, g_R_chunk_50, g13, if_neg p0]
      rcases h.em with ⟨q1, q2, _, _⟩ | ⟨q1, q2, _⟩
      · rw [q1, q2, if_neg z1, if_neg (fun q => q rfl), A1, o_sb]
        by_cases t : e = 0
        · rw [if_neg (fun q => q t), if_pos t, h.S.nR, hf3, o_sb]
          exact Or.inr ⟨rfl, rfl⟩
        · rw [if_pos t, if_neg t]
          exact Or.inl ⟨rfl, rfl, fun q => absurd q t⟩
      · rw [q1, q2, if_pos rfl, if_pos z1]
        exact Or.inl ⟨rfl, rfl, fun _ => rfl⟩
    rcases key2 with ⟨k1, k2, k3⟩ | ⟨k1, k2⟩
    · rcases key with ⟨k4, k5, k6⟩ | ⟨k4, k5⟩
      · refine Or.inr ⟨c0, c1, by rw [A0, k1, k4], k6, ?_⟩
        rcases hem with ⟨e1, e2⟩ | ⟨e1, e2⟩
        · subst e1
          exact Or.inl ⟨by rw [R0, k2, k5], e2⟩
        · subst e1
          exact Or.inr ⟨by rw [R0, k2, k5], e2, k3 rfl⟩
      · exact Or.inl ⟨by rw [A0, k1, k4], by rw [R0, k2, k5], c0⟩
    · exact Or.inl ⟨by rw [A0, k1], by rw [R0, k2], c0⟩
  · left
    refine ⟨?_, ?_, c0⟩
    · rw [g_Unp_isAllowed, g15, if_pos n0]
      simp only [l2, l128]
      rw [if_neg (by omega), if_pos (by omega)]
    · obtain ⟨e, he⟩ : ∃ e : Int32, ((if nI c = 1 then some 1 else if nI c < 224 then some 0 else some 1) : Option Int32) = some e := by
        simp only [l1, l224]
        exact ⟨0, by rw [if_neg (by omega), if_pos (by omega)]⟩
      rw [g_R_chunk, hh, o_sb]
      show (if ¬ (1 : Int32) = 0 then _ else _) = _
      rw [if_pos z1, h.S.nR, if_pos zi0, zn0, hR, he, o_sb]
      simp only [l2, l128]
      rw [if_neg (by omega), if_pos (by omega), hf3, o_sb]
