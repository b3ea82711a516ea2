theorem x_dist (D R : zx_D) (len : Int32) (hC : ¬ zg_i D 5 2 = 0) (hR : ¬ zg_i R 0 22 = 0) : ∃ d d', g_Mdl_codeDistance_s D = some (d, D) ∧ g_R_distance len R = some (d', R) := by
  obtain ⟨wq, hwq⟩ := c_slot (zg_l D 7 10) D
  obtain ⟨i, hi⟩ : ∃ i, ((if 5 ≤ len then some 3 else some (len - 2)) : Option Int32) = some i := by
    by_cases q : 5 ≤ len
    · exact ⟨3, by rw [if_pos q]⟩
    · exact ⟨len - 2, by rw [if_neg q]⟩
  obtain ⟨s, hs, t2, t3⟩ := x_tree D R (1460 + (64 * (if 3 < (zg_i D 7 9) - 2 then 3 else (zg_i D 7 9) - 2))) (7608 + 64 * i) 6 wq (by omega) hC hR
  have t2 : g_Mdl_codeTree_s (1460 + (64 * (if 3 < (zg_i D 7 9) - 2 then 3 else (zg_i D 7 9) - 2))) 6 wq D = some (nI s, D) := t2
  have t3 : g_R_tree (7608 + 64 * i) 6 R = some (nI s, R) := t3
  generalize hgi : (if 3 < (zg_i D 7 9) - 2 then 3 else (zg_i D 7 9) - 2) = gi at t2
  by_cases h4 : 4 ≤ s
  · have l4 : (4 : Int32) ≤ nI s := (y_le (a := 4) (by omega) (by omega)).mpr h4
    have k1 : nI s / 2 - 1 = nI (s / 2 - 1) := by
      rw [show (2 : Int32) = nI 2 from rfl, y_div (by omega) (by omega)]
      exact y_sub (a := s / 2) (b := 1) (by omega)
    obtain ⟨yR, hyR⟩ : ∃ q3 : Int64, ((if ¬ zo_rem (nI s) 2 = 0 then some 3 else some 2) : Option Int64) = some q3 := by
      by_cases q : ¬ zo_rem (nI s) 2 = 0
      · exact ⟨3, by rw [if_pos q]⟩
      · exact ⟨2, by rw [if_neg q]⟩
    generalize hy : zo_lshl (2 + (zo_rem (nI s) 2).toInt64) (nI (s / 2 - 1)) = yC
    by_cases h14 : 14 ≤ s
    · have l14 : (14 : Int32) ≤ nI s := (y_le (a := 14) (by omega) (by omega)).mpr h14
      have k2 : nI (s / 2 - 1) - 1 = nI (3 + (s / 2 - 1 - 4)) := by
        rw [show 3 + (s / 2 - 1 - 4) = s / 2 - 1 - 1 by omega]
        exact y_sub (a := s / 2 - 1) (b := 1) (by omega)
      obtain ⟨u', u'', w2, w3⟩ := x_evens D R (s / 2 - 1) yC (zg_l D 7 10 - 1 - yC) (zo_lshl yR (nI (s / 2 - 1))) (by omega) hC hR (s / 2 - 1 - 4) 10000 10000 0 0 (by omega) (by omega) (by omega)
      rw [show s / 2 - 1 - (s / 2 - 1 - 4) = 4 by omega] at w3
      have w3 : g_R_distance_97 (nI (s / 2 - 1)) (zo_lshl yR (nI (s / 2 - 1))) 10000 0 4 R = _ := w3
      obtain ⟨z1, z2, v1, v2⟩ := x_back D R 2036 8312 4 ((zg_l D 7 10 - 1 - yC).toInt32) (by omega) hC hR
      have v1 : g_Mdl_codeTreeBackwards_s 2036 4 ((zg_l D 7 10 - 1 - yC).toInt32) D = _ := v1
      have v2 : g_R_backwards 8312 4 R = _ := v2
      exact ⟨yC + 1 + 16 * u' + z1.toInt64, zo_lshl yR (nI (s / 2 - 1)) + 1 + 16 * u'' + z2.toInt64, by simp only [g_Mdl_codeDistance_s, hwq, hgi, t2, l4, l14, k1, hy, k2, w2, v1, o_sb, ↓reduceIte], by simp only [g_R_distance, hi, t3, l4, l14, hyR, k1, w3, v2, o_sb, ↓reduceIte]⟩
    · have l14 : ¬ (14 : Int32) ≤ nI s := fun q => h14 ((y_le (a := 14) (by omega) (by omega)).mp q)
      obtain ⟨z1, z2, v1, v2⟩ := x_back D R (1716 + 32 * (nI s - 4)) (7864 + 32 * nI s - 128) (s / 2 - 1) ((zg_l D 7 10 - 1 - yC).toInt32) (by omega) hC hR
      exact ⟨yC + 1 + z1.toInt64, zo_lshl yR (nI (s / 2 - 1)) + 1 + z2.toInt64, by simp only [g_Mdl_codeDistance_s, hwq, hgi, t2, l4, l14, k1, hy, v1, o_sb, ↓reduceIte], by simp only [g_R_distance, hi, t3, l4, l14, hyR, k1, v2, o_sb, ↓reduceIte]⟩
  · have l4 : ¬ (4 : Int32) ≤ nI s := fun q => h4 ((y_le (a := 4) (by omega) (by omega)).mp q)
    exact ⟨(nI s + 1).toInt64, (nI s).toInt64 + 1, by simp only [g_Mdl_codeDistance_s, hwq, hgi, t2, l4, o_sb, ↓reduceIte], by simp only [g_R_distance, hi, t3, l4, o_sb, ↓reduceIte]⟩
theorem y_mask {p k : Nat} (hp : p < 2 ^ 31) (hk : k ≤ 4) : nI p &&& (zo_shl 1 (nI k) - 1) = nI (p % 2 ^ k) := by
  have e : zo_shl 1 (nI k) - 1 = nI (2 ^ k - 1) := by
    have h2 : k = 0 ∨ k = 1 ∨ k = 2 ∨ k = 3 ∨ k = 4 := by omega
    rcases h2 with rfl | rfl | rfl | rfl | rfl <;> rfl
  have h3 : 2 ^ k ≤ 2 ^ 4 := Nat.pow_le_pow_right (by omega) hk
  have h4 : p % 2 ^ k < 2 ^ k := Nat.mod_lt _ (Nat.two_pow_pos k)
  rw [e]
  apply Int32.toBitVec_inj.mp
  rw [Int32.toBitVec_and, y_ofNat_bv, y_ofNat_bv, y_ofNat_bv]
  apply BitVec.eq_of_toNat_eq
  rw [BitVec.toNat_and, BitVec.toNat_ofNat, BitVec.toNat_ofNat, BitVec.toNat_ofNat, Nat.mod_eq_of_lt (show p < 2 ^ 32 by omega), Nat.mod_eq_of_lt (show 2 ^ k - 1 < 2 ^ 32 by omega), Nat.mod_eq_of_lt (show p % 2 ^ k < 2 ^ 32 by omega), Nat.and_two_pow_sub_one_eq_mod]
theorem y_low8 {v : Nat} (hv : v < 2 ^ 31) : nI v &&& 255 = nI (v % 256) := by
  have h4 : v % 256 < 256 := Nat.mod_lt _ (by omega)
  rw [show (255 : Int32) = nI 255 from rfl]
  apply Int32.toBitVec_inj.mp
  rw [Int32.toBitVec_and, y_ofNat_bv, y_ofNat_bv, y_ofNat_bv]
  apply BitVec.eq_of_toNat_eq
  rw [BitVec.toNat_and, BitVec.toNat_ofNat, BitVec.toNat_ofNat, BitVec.toNat_ofNat, Nat.mod_eq_of_lt (show v < 2 ^ 32 by omega), Nat.mod_eq_of_lt (show 255 < 2 ^ 32 by omega), Nat.mod_eq_of_lt (show v % 256 < 2 ^ 32 by omega), show 255 = 2 ^ 8 - 1 from rfl, Nat.and_two_pow_sub_one_eq_mod]
theorem y_ush {a i : Nat} (ha : a < 2 ^ 31) (hi : i ≤ 8) : zo_ushr (nI a) (nI i) = nI (a / 2 ^ i) := by
  have key : ∀ s : Nat, (zo_ushr (nI a) (nI i)).toBitVec = BitVec.ofNat 32 a >>> s → s = i → zo_ushr (nI a) (nI i) = nI (a / 2 ^ i) := by
    intro s hs e
    subst e
    apply Int32.toBitVec_inj.mp
    rw [hs, y_ofNat_bv]
    apply BitVec.eq_of_toNat_eq
    have h2 : a / 2 ^ s ≤ a := Nat.div_le_self _ _
    rw [BitVec.toNat_ushiftRight, BitVec.toNat_ofNat, BitVec.toNat_ofNat, Nat.shiftRight_eq_div_pow, Nat.mod_eq_of_lt (show a < 2 ^ 32 by omega), Nat.mod_eq_of_lt (show a / 2 ^ s < 2 ^ 32 by omega)]
  have h2 : i = 0 ∨ i = 1 ∨ i = 2 ∨ i = 3 ∨ i = 4 ∨ i = 5 ∨ i = 6 ∨ i = 7 ∨ i = 8 := by omega
  rcases h2 with rfl | rfl | rfl | rfl | rfl | rfl | rfl | rfl | rfl
  · exact key 0 rfl rfl
  · exact key 1 rfl rfl
  · exact key 2 rfl rfl
  · exact key 3 rfl rfl
  · exact key 4 rfl rfl
  · exact key 5 rfl rfl
  · exact key 6 rfl rfl
  · exact key 7 rfl rfl
  · exact key 8 rfl rfl
theorem y_shlk {u k : Nat} (hu : u < 16) (hk : k < 5) : zo_shl (nI u) (nI k) = nI (u * 2 ^ k) := by
  have key : ∀ u < 16, ∀ k < 5, zo_shl (nI u) (nI k) = nI (u * 2 ^ k) := by decide +kernel
  exact key u hu k hk
def zctx (lc lp p la : Nat) : Nat := p % 2 ^ lp * 2 ^ lc + la / 2 ^ (8 - lc)
theorem zctx_lt {lc lp p la : Nat} (h : lc + lp ≤ 3) (hl : la < 256) : zctx lc lp p la < 2 ^ (lc + lp) := by
  unfold zctx
  have h1 : p % 2 ^ lp < 2 ^ lp := Nat.mod_lt _ (Nat.two_pow_pos lp)
  have h2 : la / 2 ^ (8 - lc) < 2 ^ lc := by
    apply Nat.div_lt_of_lt_mul
    rw [← Nat.pow_add, show 8 - lc + lc = 8 by omega]
    exact hl
  have h3 : p % 2 ^ lp * 2 ^ lc + 2 ^ lc ≤ 2 ^ (lc + lp) := by
    rw [← Nat.succ_mul, Nat.pow_add, Nat.mul_comm (2 ^ lc)]
    exact Nat.mul_le_mul_right _ h1
  omega
theorem zctx_C {lc lp p la : Nat} (h : lc + lp ≤ 3) (hp : p < 2 ^ 31) (hl : la < 256) : (2052 + (768 * ((zo_shl (nI p &&& ((zo_shl 1 (nI lp)) - 1)) (nI lc)) + (zo_ushr (nI la) (8 - nI lc)))) : Int32) = nI (2052 + 768 * zctx lc lp p la) := by
  have h1 : p % 2 ^ lp < 2 ^ lp := Nat.mod_lt _ (Nat.two_pow_pos lp)
  have h2 : 2 ^ lp ≤ 2 ^ 3 := Nat.pow_le_pow_right (by omega) (by omega)
  rw [y_mask hp (by omega), y_shlk (by omega) (by omega), show (8 : Int32) - nI lc = nI (8 - lc) from y_sub (a := 8) (by omega), y_ush (by omega) (by omega), y_add, show (768 : Int32) = nI 768 from rfl, y_mul, show (2052 : Int32) = nI 2052 from rfl, y_add]
  rfl
theorem zctx_R {lc lp p la : Nat} (h : lc + lp ≤ 3) (hp : p < 2 ^ 31) (hl : la < 256) : (0 + (768 * ((zo_shl (nI p &&& ((zo_shl 1 (nI lp)) - 1)) (nI lc)) + (zo_shr (nI la) (8 - nI lc)))) : Int32) = nI (768 * zctx lc lp p la) := by
  have h1 : p % 2 ^ lp < 2 ^ lp := Nat.mod_lt _ (Nat.two_pow_pos lp)
  have h2 : 2 ^ lp ≤ 2 ^ 3 := Nat.pow_le_pow_right (by omega) (by omega)
  rw [y_mask hp (by omega), y_shlk (by omega) (by omega), show (8 : Int32) - nI lc = nI (8 - lc) from y_sub (a := 8) (by omega), y_sbit hl (by omega), y_ush (by omega) (by omega), y_add, show (768 : Int32) = nI 768 from rfl, y_mul, show (0 : Int32) = nI 0 from rfl, y_add, Nat.zero_add]
  rfl
def zaf (st : Nat) : Nat := if 4 ≤ st then if 10 ≤ st then st - 6 else st - 3 else 0
theorem zaf_lt {st : Nat} (h : st < 12) : zaf st < 7 := by
  unfold zaf
  repeat' split
  all_goals omega
theorem r_after {st : Nat} (h : st < 12) (R : zx_D) : g_R_after (nI st) R = some (nI (zaf st)) := by
  unfold zaf
  rw [g_R_after]
  by_cases h4 : 4 ≤ st
  · rw [if_pos (show (4 : Int32) ≤ nI st from (y_le (a := 4) (by omega) (by omega)).mpr h4), if_pos h4]
    by_cases h10 : 10 ≤ st
    · rw [if_pos (show (10 : Int32) ≤ nI st from (y_le (a := 10) (by omega) (by omega)).mpr h10), if_pos h10, show nI st - 6 = nI (st - 6) from y_sub (b := 6) (by omega)]
    · rw [if_neg (show ¬ (10 : Int32) ≤ nI st from fun q => h10 ((y_le (a := 10) (by omega) (by omega)).mp q)), if_neg h10, show nI st - 3 = nI (st - 3) from y_sub (b := 3) (by omega)]
  · rw [if_neg (show ¬ (4 : Int32) ≤ nI st from fun q => h4 ((y_le (a := 4) (by omega) (by omega)).mp q)), if_neg h4]
    rfl
theorem c_after {st : Nat} (h : st < 12) {D : zx_D} (hs : zg_i D 7 2 = nI st) (F : Int32 → zx_D) : (if 4 ≤ zg_i D 7 2 then if 10 ≤ zg_i D 7 2 then some (F ((zg_i D 7 2) - 6)) else some (F ((zg_i D 7 2) - 3)) else some (F 0)) = some (F (nI (zaf st))) := by
  have := r_after h D
  rw [g_R_after] at this
  rw [hs]
  by_cases h4 : (4 : Int32) ≤ nI st
  · rw [if_pos h4] at this ⊢
    by_cases h10 : (10 : Int32) ≤ nI st
    · rw [if_pos h10] at this ⊢
      rw [Option.some.inj this]
    · rw [if_neg h10] at this ⊢
      rw [Option.some.inj this]
  · rw [if_neg h4] at this ⊢
    rw [Option.some.inj this]
