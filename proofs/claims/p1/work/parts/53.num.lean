theorem y_same (D : zx_D) (p k : Nat) : zp_i D p k (zg_i D p k) = D := by
  unfold zp_i zg_i va_up
  apply Prod.ext
  · funext q j
    by_cases h : q = p
    · subst h
      by_cases h2 : j = k
      · subst h2; simp
      · simp [h2]
    · simp [h]
  · rfl
theorem y_same' {D : zx_D} {p k : Nat} {x : Int32} (h : zg_i D p k = x) : zp_i D p k x = D := by
  rw [← h]
  exact y_same D p k
theorem y_pp (D : zx_D) (p k : Nat) (x y : Int32) : zp_i (zp_i D p k x) p k y = zp_i D p k y := by
  unfold zp_i va_up
  apply Prod.ext
  · funext q j
    by_cases h : q = p
    · subst h
      by_cases h2 : j = k <;> simp [h2]
    · simp [h]
  · rfl
theorem y_comm (D : zx_D) (p k q j : Nat) (x y : Int32) (h : p ≠ q) : zp_i (zp_i D p k x) q j y = zp_i (zp_i D q j y) p k x := by
  unfold zp_i va_up
  apply Prod.ext
  · funext u w
    by_cases h1 : u = p
    · subst h1
      have h2 : ¬ u = q := h
      simp [h2]
    · by_cases h2 : u = q
      · subst h2
        simp [h1]
      · simp [h1, h2]
  · rfl
theorem y_div {a b : Nat} (ha : a < 2 ^ 31) (hb : b < 2 ^ 31) : nI a / nI b = nI (a / b) := by
  apply Int32.toInt_inj.mp
  have h1 : a / b ≤ a := Nat.div_le_self a b
  rw [Int32.toInt_div, y_toInt ha, y_toInt hb, y_toInt (by omega)]
  rw [show ((a : Int).tdiv (b : Int)) = ((a / b : Nat) : Int) from (Int.ofNat_tdiv a b).symm]
  generalize a / b = q at h1 ⊢
  exact Int.bmod_eq_of_le (by omega) (by omega)
theorem y_rem {a b : Nat} (ha : a < 2 ^ 31) (hb : b < 2 ^ 31) : zo_rem (nI a) (nI b) = nI (a % b) := by
  have h1 : a / b * b ≤ a := Nat.div_mul_le_self a b
  unfold zo_rem
  rw [y_div ha hb, y_mul, y_sub h1]
  congr 1
  have := Nat.mod_add_div a b
  rw [Nat.mul_comm] at this
  omega
theorem y_lowor (x : Int64) {b : Int32} (hb : y_B b) : zo_lshl x 8 + b.toInt64 = zo_lshl x 8 ||| b.toInt64 := by
  obtain ⟨a, ha, rfl⟩ := hb
  apply Int64.toBitVec_inj.mp
  rw [v_of (by omega), Int64.toBitVec_add, Int64.toBitVec_or]
  have e1 : (zo_lshl x 8).toBitVec = x.toBitVec <<< 8 := rfl
  have e2 : (nL a).toBitVec = BitVec.ofNat 64 a := rfl
  rw [e1, e2]
  apply BitVec.add_eq_or_of_and_eq_zero
  apply BitVec.eq_of_getLsbD_eq
  intro i hi
  rw [BitVec.getLsbD_and, BitVec.getLsbD_shiftLeft, BitVec.getLsbD_ofNat]
  by_cases h8 : i < 8
  · simp [h8]
  · have : a.testBit i = false := Nat.testBit_lt_two_pow (Nat.lt_of_lt_of_le ha (show 2 ^ 8 ≤ 2 ^ i from Nat.pow_le_pow_right (by omega) (by omega)))
    simp [this]
theorem y_P_or {s t : Int64} (h1 : y_P s) (h2 : y_P t) : y_P (s ||| t) := by
  unfold y_P at *
  rw [Int64.toBitVec_or, BitVec.msb_or, h1, h2]
  rfl
theorem y_P_nn {s : Int64} (h : y_P s) : ¬ s < 0 := by
  unfold y_P at h
  rw [Int64.lt_iff_toInt_lt]
  have h0 : (0 : Int64).toInt = 0 := rfl
  have : s.toInt = s.toBitVec.toInt := rfl
  rw [h0, this]
  have := BitVec.toInt_nonneg_of_msb_false h
  omega
theorem y_P_m1 {s : Int64} (h : y_P s) : ¬ s = -1 := by
  intro q
  subst q
  revert h
  unfold y_P
  decide
theorem y_P_7aux {a s : Nat} {u : Int64} (ha : a < 128) (hs : s ≤ 56) (e : u.toBitVec = BitVec.ofNat 64 a <<< s) : y_P u := by
  unfold y_P
  rw [e, BitVec.msb_eq_getLsbD_last, BitVec.getLsbD_shiftLeft, BitVec.getLsbD_ofNat]
  have : a.testBit (63 - s) = false := Nat.testBit_lt_two_pow (Nat.lt_of_lt_of_le ha (show 2 ^ 7 ≤ 2 ^ (63 - s) from Nat.pow_le_pow_right (by omega) (by omega)))
  simp [this]
theorem y_and127 {a : Nat} (ha : a < 256) : nI a &&& 127 = nI (a % 128) := by
  apply Int32.toBitVec_inj.mp
  rw [Int32.toBitVec_and, y_ofNat_bv, y_ofNat_bv]
  apply BitVec.eq_of_toNat_eq
  rw [BitVec.toNat_and, BitVec.toNat_ofNat, BitVec.toNat_ofNat, Nat.mod_eq_of_lt (by omega), Nat.mod_eq_of_lt (by omega)]
  exact Nat.and_two_pow_sub_one_eq_mod a 7
theorem y_P_7 {b : Int32} {i : Nat} (hb : y_B b) (hi : i < 9) : y_P (zo_lshl ((b &&& 127).toInt64) (7 * nI i)) := by
  obtain ⟨a, ha, rfl⟩ := hb
  rw [y_and127 ha, v_of (by omega)]
  have h7 : a % 128 < 128 := Nat.mod_lt _ (by omega)
  have hm : i = 0 ∨ i = 1 ∨ i = 2 ∨ i = 3 ∨ i = 4 ∨ i = 5 ∨ i = 6 ∨ i = 7 ∨ i = 8 := by omega
  rcases hm with rfl | rfl | rfl | rfl | rfl | rfl | rfl | rfl | rfl
  · exact y_P_7aux (s := 0) h7 (by omega) rfl
  · exact y_P_7aux (s := 7) h7 (by omega) rfl
  · exact y_P_7aux (s := 14) h7 (by omega) rfl
  · exact y_P_7aux (s := 21) h7 (by omega) rfl
  · exact y_P_7aux (s := 28) h7 (by omega) rfl
  · exact y_P_7aux (s := 35) h7 (by omega) rfl
  · exact y_P_7aux (s := 42) h7 (by omega) rfl
  · exact y_P_7aux (s := 49) h7 (by omega) rfl
  · exact y_P_7aux (s := 56) h7 (by omega) rfl
