theorem y_toInt {n : Nat} (h : n < 2 ^ 31) : (nI n).toInt = n := by
  unfold nI
  exact Int32.toInt_ofNat_of_lt h
theorem y_zn {n : Nat} (h : n < 2 ^ 31) : zn (nI n) = n := by
  unfold zn Int32.toNatClampNeg
  rw [y_toInt h]
  rfl
theorem y_lt {a b : Nat} (ha : a < 2 ^ 31) (hb : b < 2 ^ 31) : (nI a < nI b) ↔ a < b := by
  rw [Int32.lt_iff_toInt_lt, y_toInt ha, y_toInt hb]
  omega
theorem y_le {a b : Nat} (ha : a < 2 ^ 31) (hb : b < 2 ^ 31) : (nI a ≤ nI b) ↔ a ≤ b := by
  rw [Int32.le_iff_toInt_le, y_toInt ha, y_toInt hb]
  omega
theorem y_eq {a b : Nat} (ha : a < 2 ^ 31) (hb : b < 2 ^ 31) : (nI a = nI b) ↔ a = b := by
  constructor
  · intro h
    have := congrArg Int32.toInt h
    rw [y_toInt ha, y_toInt hb] at this
    omega
  · intro h
    rw [h]
theorem y_add (a b : Nat) : nI a + nI b = nI (a + b) := (Int32.ofNat_add a b).symm
theorem y_mul (a b : Nat) : nI a * nI b = nI (a * b) := (Int32.ofNat_mul a b).symm
theorem y_sub {a b : Nat} (h : b ≤ a) : nI a - nI b = nI (a - b) := by
  have e : nI a = nI (a - b) + nI b := by rw [y_add, Nat.sub_add_cancel h]
  rw [e]
  exact Int32.add_sub_cancel _ _
theorem y_in {a n : Nat} (h : a < n) (hn : n ≤ 2 ^ 31) : zk_in (nI a) n = true := by
  unfold zk_in
  rw [y_toInt (by omega)]
  exact decide_eq_true ⟨by omega, by omega⟩
theorem y_ex {x : Int32} (h : ¬ x < 0) : ∃ a : Nat, a < 2 ^ 31 ∧ x = nI a := by
  rw [Int32.lt_iff_toInt_lt] at h
  have h0 : (0 : Int32).toInt = 0 := rfl
  rw [h0] at h
  refine ⟨x.toInt.toNat, ?_, ?_⟩
  · have := Int32.toInt_lt x
    omega
  · apply Int32.toInt_inj.mp
    have := Int32.toInt_lt x
    rw [y_toInt (by omega)]
    omega
theorem y_neg {x : Int32} (h : x < 0) : x.toInt < 0 := by
  rw [Int32.lt_iff_toInt_lt] at h
  exact h
def y_B (x : Int32) : Prop := ∃ a : Nat, a < 256 ∧ x = nI a
theorem y_gi (D : zx_D) (p k q j : Nat) (x : Int32) : zg_i (zp_i D p k x) q j = if q = p ∧ j = k then x else zg_i D q j := by
  unfold zg_i zp_i va_up
  by_cases h : q = p
  · subst h
    by_cases h2 : j = k <;> simp [h2]
  · simp [h]
theorem y_gl (D : zx_D) (p k q j : Nat) (x : Int64) : zg_l (zp_l D p k x) q j = if q = p ∧ j = k then x else zg_l D q j := by
  unfold zg_l zp_l va_up
  by_cases h : q = p
  · subst h
    by_cases h2 : j = k <;> simp [h2]
  · simp [h]
theorem y_il (D : zx_D) (p k q j : Nat) (x : Int64) : zg_i (zp_l D p k x) q j = zg_i D q j := rfl
theorem y_li (D : zx_D) (p k q j : Nat) (x : Int32) : zg_l (zp_i D p k x) q j = zg_l D q j := rfl
theorem y_ga (D : zx_D) (p q j : Nat) (f : Nat → Int32) : zg_i (zp_a D p f) q j = if q = p then f j else zg_i D q j := by
  unfold zg_i zp_a va_up
  by_cases h : q = p <;> simp [h]
theorem y_la (D : zx_D) (p q j : Nat) (f : Nat → Int32) : zg_l (zp_a D p f) q j = zg_l D q j := rfl
theorem y_n (n : Nat) : (OfNat.ofNat n : Int32) = nI (OfNat.ofNat n) := rfl
theorem y_ofNat_bv (n : Nat) : (nI n).toBitVec = BitVec.ofNat 32 n := rfl
theorem y_B_of {y : Int32} : y_B (y &&& 255) := by
  refine ⟨(y.toBitVec &&& 255#32).toNat, ?_, ?_⟩
  · rw [BitVec.toNat_and]
    exact Nat.lt_of_le_of_lt Nat.and_le_right (by decide)
  · apply Int32.toBitVec_inj.mp
    rw [Int32.toBitVec_and, y_ofNat_bv, BitVec.ofNat_toNat, BitVec.setWidth_eq]
    rfl
theorem y_byte_aux (x u v : Int64) (s : Nat) (hs : s + 8 ≤ 64) (e1 : u.toBitVec = x.toBitVec >>> s) (e2 : v.toBitVec = x.toBitVec.sshiftRight s) : u.toInt32 &&& 255 = (v &&& 255).toInt32 := by
  apply Int32.toBitVec_inj.mp
  rw [Int32.toBitVec_and, Int64.toBitVec_toInt32, Int64.toBitVec_toInt32, Int64.toBitVec_and, e1, e2]
  apply BitVec.eq_of_getLsbD_eq
  intro i hi
  have e3 : (255 : Int32).toBitVec = 255#32 := rfl
  have e4 : (255 : Int64).toBitVec = 255#64 := rfl
  rw [e3, e4]
  have key : ∀ (w : Nat), (255#w).getLsbD i = (decide (i < w) && decide (i < 8)) := by
    intro w
    rw [BitVec.getLsbD_ofNat]
    congr 1
    exact Nat.testBit_two_pow_sub_one 8 i
  simp only [BitVec.getLsbD_and, BitVec.getLsbD_signExtend, BitVec.getLsbD_ushiftRight, BitVec.getLsbD_sshiftRight, key]
  have h64 : i < 64 := by omega
  by_cases h8 : i < 8
  · have h2 : s + i < 64 := by omega
    have h3 : ¬ 64 ≤ i := by omega
    simp [hi, h64, h8, h2, h3]
  · simp [hi, h64, h8]
theorem y_byte (x : Int64) {m : Nat} (h : m < 8) : (zo_lushr x (8 * nI m)).toInt32 &&& 255 = ((zo_lshr x (8 * nI m)) &&& 255).toInt32 := by
  have hm : m = 0 ∨ m = 1 ∨ m = 2 ∨ m = 3 ∨ m = 4 ∨ m = 5 ∨ m = 6 ∨ m = 7 := by omega
  rcases hm with rfl | rfl | rfl | rfl | rfl | rfl | rfl | rfl
  · exact y_byte_aux x _ _ 0 (by omega) rfl rfl
  · exact y_byte_aux x _ _ 8 (by omega) rfl rfl
  · exact y_byte_aux x _ _ 16 (by omega) rfl rfl
  · exact y_byte_aux x _ _ 24 (by omega) rfl rfl
  · exact y_byte_aux x _ _ 32 (by omega) rfl rfl
  · exact y_byte_aux x _ _ 40 (by omega) rfl rfl
  · exact y_byte_aux x _ _ 48 (by omega) rfl rfl
  · exact y_byte_aux x _ _ 56 (by omega) rfl rfl
theorem y_nlt {a b : Nat} (ha : a < 2 ^ 31) (hb : b < 2 ^ 31) (h : ¬ nI a < nI b) : b ≤ a := by
  rw [y_lt ha hb] at h
  omega
theorem y_nle {a b : Nat} (ha : a < 2 ^ 31) (hb : b < 2 ^ 31) (h : ¬ nI a ≤ nI b) : b < a := by
  rw [y_le ha hb] at h
  omega
theorem y_1 (n : Nat) : nI n + 1 = nI (n + 1) := y_add n 1
def nL (n : Nat) : Int64 := Int64.ofNat n
theorem v_toInt {n : Nat} (h : n < 2 ^ 63) : (nL n).toInt = n := Int64.toInt_ofNat_of_lt h
theorem v_lt {a b : Nat} (ha : a < 2 ^ 63) (hb : b < 2 ^ 63) : (nL a < nL b) ↔ a < b := by
  rw [Int64.lt_iff_toInt_lt, v_toInt ha, v_toInt hb]
  omega
theorem v_le {a b : Nat} (ha : a < 2 ^ 63) (hb : b < 2 ^ 63) : (nL a ≤ nL b) ↔ a ≤ b := by
  rw [Int64.le_iff_toInt_le, v_toInt ha, v_toInt hb]
  omega
theorem v_eq {a b : Nat} (ha : a < 2 ^ 63) (hb : b < 2 ^ 63) : (nL a = nL b) ↔ a = b := by
  constructor
  · intro h
    have := congrArg Int64.toInt h
    rw [v_toInt ha, v_toInt hb] at this
    omega
  · intro h
    rw [h]
theorem v_add (a b : Nat) : nL a + nL b = nL (a + b) := (Int64.ofNat_add a b).symm
theorem v_mul (a b : Nat) : nL a * nL b = nL (a * b) := (Int64.ofNat_mul a b).symm
theorem v_sub {a b : Nat} (h : b ≤ a) : nL a - nL b = nL (a - b) := by
  have e : nL a = nL (a - b) + nL b := by rw [v_add, Nat.sub_add_cancel h]
  rw [e]
  exact Int64.add_sub_cancel _ _
theorem v_n (n : Nat) : (OfNat.ofNat n : Int64) = nL (OfNat.ofNat n) := rfl
theorem v_of {a : Nat} (h : a < 2 ^ 31) : (nI a).toInt64 = nL a := by
  apply Int64.toInt_inj.mp
  rw [Int32.toInt_toInt64, y_toInt h, v_toInt (by omega)]
theorem v_to (a : Nat) : (nL a).toInt32 = nI a := by
  apply Int32.toInt_inj.mp
  rw [Int64.toInt_toInt32]
  unfold nL nI
  rw [Int64.toInt_ofNat', Int32.toInt_ofNat']
  exact Int.bmod_bmod_of_dvd (by decide)
