def y_sb (t : Int64) : Nat → Int64 → Int64
  | 0, s => s
  | k + 1, s => y_sb t k (if ¬ s &&& 1 = 1 then zo_lushr s 1 else zo_lushr s 1 ^^^ t)
def y_by (t s : Int64) (b : Int32) : Int64 := y_sb t 8 (s ^^^ b.toInt64)
def y_fo (t : Int64) (f : Nat → Int32) : Nat → Nat → Int64 → Int64
  | 0, _, s => s
  | c + 1, j, s => y_fo t f c (j + 1) (y_by t s (f j))
def y_s4 (f : Nat → Int32) (j c : Nat) : Int64 := y_fo 3988292384 f c j 4294967295 ^^^ 4294967295
def y_s8 (f : Nat → Int32) (j c : Nat) : Int64 := y_fo (-3932672073523589310) f c j (-1) ^^^ (-1)
theorem y_fo_congr (t : Int64) {f g : Nat → Int32} : ∀ (c j : Nat) (s : Int64), (∀ i, j ≤ i → i < j + c → f i = g i) → y_fo t f c j s = y_fo t g c j s
  | 0, _, _, _ => rfl
  | c + 1, j, s, h => by
    rw [y_fo, y_fo, h j (by omega) (by omega)]
    exact y_fo_congr t c (j + 1) _ (fun i h1 h2 => h i (by omega) (by omega))
theorem y_s4_congr {f g : Nat → Int32} {j c : Nat} (h : ∀ i, j ≤ i → i < j + c → f i = g i) : y_s4 f j c = y_s4 g j c := by rw [y_s4, y_s4, y_fo_congr _ c j _ h]
theorem y_s8_congr {f g : Nat → Int32} {j c : Nat} (h : ∀ i, j ≤ i → i < j + c → f i = g i) : y_s8 f j c = y_s8 g j c := by rw [y_s8, y_s8, y_fo_congr _ c j _ h]
def y_P (s : Int64) : Prop := s.toBitVec.msb = false
theorem y_P_ushr (s : Int64) : y_P (zo_lushr s 1) := by
  have e : (zo_lushr s 1).toBitVec = s.toBitVec >>> 1 := rfl
  unfold y_P
  rw [e]
  simp [BitVec.msb_eq_getLsbD_last]
theorem y_P_xor {s t : Int64} (h1 : y_P s) (h2 : y_P t) : y_P (s ^^^ t) := by
  unfold y_P at *
  rw [Int64.toBitVec_xor, BitVec.msb_xor, h1, h2]
  rfl
theorem y_P_shr {s : Int64} (h : y_P s) : zo_lshr s 1 = zo_lushr s 1 := by
  apply Int64.toBitVec_inj.mp
  have e1 : (zo_lushr s 1).toBitVec = s.toBitVec >>> 1 := rfl
  have e2 : (zo_lshr s 1).toBitVec = s.toBitVec.sshiftRight 1 := rfl
  rw [e1, e2, BitVec.sshiftRight_eq_of_msb_false h]
theorem y_P_byte {b : Int32} (h : y_B b) : y_P b.toInt64 := by
  obtain ⟨a, ha, rfl⟩ := h
  rw [v_of (by omega)]
  unfold y_P
  have e : (nL a).toBitVec = BitVec.ofNat 64 a := rfl
  rw [e, BitVec.msb_eq_decide, BitVec.toNat_ofNat]
  rw [Nat.mod_eq_of_lt (by omega)]
  exact decide_eq_false (by omega)
theorem y_sb_P {t : Int64} (ht : y_P t) : ∀ (k : Nat) (s : Int64), y_P s → y_P (y_sb t k s)
  | 0, _, h => h
  | k + 1, s, h => by
    rw [y_sb]
    refine y_sb_P ht k _ ?_
    split
    · exact y_P_ushr s
    · exact y_P_xor (y_P_ushr s) ht
theorem y_P_4 : y_P 3988292384 := by unfold y_P; decide
theorem y_P_F : y_P 4294967295 := by unfold y_P; decide
theorem y_by_P {t s : Int64} {b : Int32} (ht : y_P t) (hs : y_P s) (hb : y_B b) : y_P (y_by t s b) := y_sb_P ht 8 _ (y_P_xor hs (y_P_byte hb))
theorem y_four8 (D : zx_D) : ∀ (c k i : Nat) (s : Int64), c < k → i + c = 8 → y_P s → g_R_four_8 D k s (nI i) = some (y_sb 3988292384 c s)
  | 0, k + 1, i, s, _, hi, hs => by
    rw [g_R_four_8, if_pos (show (8 : Int32) ≤ nI i from (y_le (a := 8) (by omega) (by omega)).mpr (by omega))]
    rfl
  | c + 1, k + 1, i, s, hk, hi, hs => by
    rw [g_R_four_8, if_neg (show ¬ (8 : Int32) ≤ nI i from fun q => by have := (y_le (a := 8) (by omega) (by omega)).mp q; omega), y_P_shr hs, y_1, y_sb]
    by_cases h : ¬ s &&& 1 = 1
    · rw [if_pos h, if_pos h]
      exact y_four8 D c k (i + 1) _ (by omega) (by omega) (y_P_ushr s)
    · rw [if_neg h, if_neg h]
      exact y_four8 D c k (i + 1) _ (by omega) (by omega) (y_P_xor (y_P_ushr s) y_P_4)
theorem y_four (D : zx_D) {s : Int64} {b : Int32} (hs : y_P s) (hb : y_B b) : g_R_four s b D = some (y_by 3988292384 s b) := by
  have := y_four8 D 8 10000 0 (s ^^^ b.toInt64) (by omega) rfl (y_P_xor hs (y_P_byte hb))
  rw [g_R_four]
  exact congrArg (fun o => Option.bind o (fun q => some q)) this
theorem y_eight8 (D : zx_D) : ∀ (c k i : Nat) (s : Int64), c < k → i + c = 8 → g_R_eight_8 D k s (nI i) = some (y_sb (-3932672073523589310) c s)
  | 0, k + 1, i, s, _, hi => by
    rw [g_R_eight_8, if_pos (show (8 : Int32) ≤ nI i from (y_le (a := 8) (by omega) (by omega)).mpr (by omega))]
    rfl
  | c + 1, k + 1, i, s, hk, hi => by
    rw [g_R_eight_8, if_neg (show ¬ (8 : Int32) ≤ nI i from fun q => by have := (y_le (a := 8) (by omega) (by omega)).mp q; omega), y_1, y_sb]
    by_cases h : ¬ s &&& 1 = 1
    · rw [if_pos h, if_pos h]
      exact y_eight8 D c k (i + 1) _ (by omega) (by omega)
    · rw [if_neg h, if_neg h]
      exact y_eight8 D c k (i + 1) _ (by omega) (by omega)
theorem y_eight (D : zx_D) (s : Int64) (b : Int32) : g_R_eight s b D = some (y_by (-3932672073523589310) s b) := by
  have := y_eight8 D 8 10000 0 (s ^^^ b.toInt64) (by omega) rfl
  rw [g_R_eight]
  exact congrArg (fun o => Option.bind o (fun q => some q)) this
theorem y_sumI2 (x2 : Int32) (x3 t : Int64) (x9 : Int32) (D : zx_D) : ∀ (c k i : Nat) (s : Int64), c < k → i + c = 8 → g_P_sumBy_2_25 x2 x3 t x9 D k s (nI i) = some (y_sb t c s)
  | 0, k + 1, i, s, _, hi => by
    rw [g_P_sumBy_2_25, if_pos (show (8 : Int32) ≤ nI i from (y_le (a := 8) (by omega) (by omega)).mpr (by omega))]
    rfl
  | c + 1, k + 1, i, s, hk, hi => by
    rw [g_P_sumBy_2_25, if_neg (show ¬ (8 : Int32) ≤ nI i from fun q => by have := (y_le (a := 8) (by omega) (by omega)).mp q; omega), y_1, y_sb]
    by_cases h : ¬ s &&& 1 = 1
    · rw [if_pos h, if_pos h]
      exact y_sumI2 x2 x3 t x9 D c k (i + 1) _ (by omega) (by omega)
    · rw [if_neg h, if_neg h]
      exact y_sumI2 x2 x3 t x9 D c k (i + 1) _ (by omega) (by omega)
theorem y_sumO2 (x3 t : Int64) (D : zx_D) (e : Nat) (he : e ≤ 400) : ∀ (c k j : Nat) (s : Int64), c < k → j + c = e → g_P_sumBy_2_6 (nI e) x3 t D k s (nI j) = some (y_fo t (D.1 2) c j s)
  | 0, k + 1, j, s, _, hj => by
    rw [g_P_sumBy_2_6, if_pos ((y_le (by omega) (by omega)).mpr (by omega))]
    rfl
  | c + 1, k + 1, j, s, hk, hj => by
    have h := y_sumI2 (nI e) x3 t (nI j) D 8 10000 0 (s ^^^ (D.1 2 j).toInt64) (by omega) rfl
    have h : g_P_sumBy_2_25 (nI e) x3 t (nI j) D 10000 (s ^^^ (zg_i D 2 j).toInt64) 0 = some _ := h
    rw [g_P_sumBy_2_6, if_neg (fun q => by have := (y_le (by omega) (by omega)).mp q; omega), if_pos (y_in (by omega) (by omega)), y_zn (by omega), h, Option.bind_some, y_1]
    exact y_sumO2 x3 t D e he c k (j + 1) _ (by omega) (by omega)
theorem y_sum4_2 (D : zx_D) {j e : Nat} (he : e ≤ 400) (hj : j ≤ e) : g_P_sumFour_2 (nI j) (nI e) D = some (y_s4 (D.1 2) j (e - j)) := by
  rw [g_P_sumFour_2, g_P_sumBy_2, y_sumO2 _ _ D e he (e - j) 10000 j _ (by omega) (by omega)]
  rfl
theorem y_sum8_2 (D : zx_D) {j e : Nat} (he : e ≤ 400) (hj : j ≤ e) : g_P_sumEight_2 (nI j) (nI e) D = some (y_s8 (D.1 2) j (e - j)) := by
  rw [g_P_sumEight_2, g_P_sumBy_2, y_sumO2 _ _ D e he (e - j) 10000 j _ (by omega) (by omega)]
  rfl
theorem y_sumI19 (x2 : Int32) (x3 t : Int64) (x9 : Int32) (D : zx_D) : ∀ (c k i : Nat) (s : Int64), c < k → i + c = 8 → g_P_sumBy_19_25 x2 x3 t x9 D k s (nI i) = some (y_sb t c s)
  | 0, k + 1, i, s, _, hi => by
    rw [g_P_sumBy_19_25, if_pos (show (8 : Int32) ≤ nI i from (y_le (a := 8) (by omega) (by omega)).mpr (by omega))]
    rfl
  | c + 1, k + 1, i, s, hk, hi => by
    rw [g_P_sumBy_19_25, if_neg (show ¬ (8 : Int32) ≤ nI i from fun q => by have := (y_le (a := 8) (by omega) (by omega)).mp q; omega), y_1, y_sb]
    by_cases h : ¬ s &&& 1 = 1
    · rw [if_pos h, if_pos h]
      exact y_sumI19 x2 x3 t x9 D c k (i + 1) _ (by omega) (by omega)
    · rw [if_neg h, if_neg h]
      exact y_sumI19 x2 x3 t x9 D c k (i + 1) _ (by omega) (by omega)
theorem y_sumO19 (x3 t : Int64) (D : zx_D) (e : Nat) (he : e ≤ 640) : ∀ (c k j : Nat) (s : Int64), c < k → j + c = e → g_P_sumBy_19_6 (nI e) x3 t D k s (nI j) = some (y_fo t (D.1 19) c j s)
  | 0, k + 1, j, s, _, hj => by
    rw [g_P_sumBy_19_6, if_pos ((y_le (by omega) (by omega)).mpr (by omega))]
    rfl
  | c + 1, k + 1, j, s, hk, hj => by
    have h := y_sumI19 (nI e) x3 t (nI j) D 8 10000 0 (s ^^^ (D.1 19 j).toInt64) (by omega) rfl
    have h : g_P_sumBy_19_25 (nI e) x3 t (nI j) D 10000 (s ^^^ (zg_i D 19 j).toInt64) 0 = some _ := h
    rw [g_P_sumBy_19_6, if_neg (fun q => by have := (y_le (by omega) (by omega)).mp q; omega), if_pos (y_in (by omega) (by omega)), y_zn (by omega), h, Option.bind_some, y_1]
    exact y_sumO19 x3 t D e he c k (j + 1) _ (by omega) (by omega)
theorem y_sum4_19 (D : zx_D) {j e : Nat} (he : e ≤ 640) (hj : j ≤ e) : g_P_sumFour_19 (nI j) (nI e) D = some (y_s4 (D.1 19) j (e - j)) := by
  rw [g_P_sumFour_19, g_P_sumBy_19, y_sumO19 _ _ D e he (e - j) 10000 j _ (by omega) (by omega)]
  rfl
theorem y_sumI22 (x2 : Int32) (x3 t : Int64) (x9 : Int32) (D : zx_D) : ∀ (c k i : Nat) (s : Int64), c < k → i + c = 8 → g_P_sumBy_22_25 x2 x3 t x9 D k s (nI i) = some (y_sb t c s)
  | 0, k + 1, i, s, _, hi => by
    rw [g_P_sumBy_22_25, if_pos (show (8 : Int32) ≤ nI i from (y_le (a := 8) (by omega) (by omega)).mpr (by omega))]
    rfl
  | c + 1, k + 1, i, s, hk, hi => by
    rw [g_P_sumBy_22_25, if_neg (show ¬ (8 : Int32) ≤ nI i from fun q => by have := (y_le (a := 8) (by omega) (by omega)).mp q; omega), y_1, y_sb]
    by_cases h : ¬ s &&& 1 = 1
    · rw [if_pos h, if_pos h]
      exact y_sumI22 x2 x3 t x9 D c k (i + 1) _ (by omega) (by omega)
    · rw [if_neg h, if_neg h]
      exact y_sumI22 x2 x3 t x9 D c k (i + 1) _ (by omega) (by omega)
theorem y_sumO22 (x3 t : Int64) (D : zx_D) (e : Nat) (he : e ≤ 6) : ∀ (c k j : Nat) (s : Int64), c < k → j + c = e → g_P_sumBy_22_6 (nI e) x3 t D k s (nI j) = some (y_fo t (D.1 22) c j s)
  | 0, k + 1, j, s, _, hj => by
    rw [g_P_sumBy_22_6, if_pos ((y_le (by omega) (by omega)).mpr (by omega))]
    rfl
  | c + 1, k + 1, j, s, hk, hj => by
    have h := y_sumI22 (nI e) x3 t (nI j) D 8 10000 0 (s ^^^ (D.1 22 j).toInt64) (by omega) rfl
    have h : g_P_sumBy_22_25 (nI e) x3 t (nI j) D 10000 (s ^^^ (zg_i D 22 j).toInt64) 0 = some _ := h
    rw [g_P_sumBy_22_6, if_neg (fun q => by have := (y_le (by omega) (by omega)).mp q; omega), if_pos (y_in (by omega) (by omega)), y_zn (by omega), h, Option.bind_some, y_1]
    exact y_sumO22 x3 t D e he c k (j + 1) _ (by omega) (by omega)
theorem y_sum4_22 (D : zx_D) {j e : Nat} (he : e ≤ 6) (hj : j ≤ e) : g_P_sumFour_22 (nI j) (nI e) D = some (y_s4 (D.1 22) j (e - j)) := by
  rw [g_P_sumFour_22, g_P_sumBy_22, y_sumO22 _ _ D e he (e - j) 10000 j _ (by omega) (by omega)]
  rfl
theorem y_sumI4 (x2 : Int32) (x3 t : Int64) (x9 : Int32) (D : zx_D) : ∀ (c k i : Nat) (s : Int64), c < k → i + c = 8 → g_P_sumBy_4_25 x2 x3 t x9 D k s (nI i) = some (y_sb t c s)
  | 0, k + 1, i, s, _, hi => by
    rw [g_P_sumBy_4_25, if_pos (show (8 : Int32) ≤ nI i from (y_le (a := 8) (by omega) (by omega)).mpr (by omega))]
    rfl
  | c + 1, k + 1, i, s, hk, hi => by
    rw [g_P_sumBy_4_25, if_neg (show ¬ (8 : Int32) ≤ nI i from fun q => by have := (y_le (a := 8) (by omega) (by omega)).mp q; omega), y_1, y_sb]
    by_cases h : ¬ s &&& 1 = 1
    · rw [if_pos h, if_pos h]
      exact y_sumI4 x2 x3 t x9 D c k (i + 1) _ (by omega) (by omega)
    · rw [if_neg h, if_neg h]
      exact y_sumI4 x2 x3 t x9 D c k (i + 1) _ (by omega) (by omega)
theorem y_sumO4 (x3 t : Int64) (D : zx_D) (e : Nat) (he : e ≤ 640) : ∀ (c k j : Nat) (s : Int64), c < k → j + c = e → g_P_sumBy_4_6 (nI e) x3 t D k s (nI j) = some (y_fo t (D.1 4) c j s)
  | 0, k + 1, j, s, _, hj => by
    rw [g_P_sumBy_4_6, if_pos ((y_le (by omega) (by omega)).mpr (by omega))]
    rfl
  | c + 1, k + 1, j, s, hk, hj => by
    have h := y_sumI4 (nI e) x3 t (nI j) D 8 10000 0 (s ^^^ (D.1 4 j).toInt64) (by omega) rfl
    have h : g_P_sumBy_4_25 (nI e) x3 t (nI j) D 10000 (s ^^^ (zg_i D 4 j).toInt64) 0 = some _ := h
    rw [g_P_sumBy_4_6, if_neg (fun q => by have := (y_le (by omega) (by omega)).mp q; omega), if_pos (y_in (by omega) (by omega)), y_zn (by omega), h, Option.bind_some, y_1]
    exact y_sumO4 x3 t D e he c k (j + 1) _ (by omega) (by omega)
theorem y_sum4_4 (D : zx_D) {j e : Nat} (he : e ≤ 640) (hj : j ≤ e) : g_P_sumFour_4 (nI j) (nI e) D = some (y_s4 (D.1 4) j (e - j)) := by
  rw [g_P_sumFour_4, g_P_sumBy_4, y_sumO4 _ _ D e he (e - j) 10000 j _ (by omega) (by omega)]
  rfl
theorem y_sumI11 (x2 : Int32) (x3 t : Int64) (x9 : Int32) (D : zx_D) : ∀ (c k i : Nat) (s : Int64), c < k → i + c = 8 → g_P_sumBy_11_25 x2 x3 t x9 D k s (nI i) = some (y_sb t c s)
  | 0, k + 1, i, s, _, hi => by
    rw [g_P_sumBy_11_25, if_pos (show (8 : Int32) ≤ nI i from (y_le (a := 8) (by omega) (by omega)).mpr (by omega))]
    rfl
  | c + 1, k + 1, i, s, hk, hi => by
    rw [g_P_sumBy_11_25, if_neg (show ¬ (8 : Int32) ≤ nI i from fun q => by have := (y_le (a := 8) (by omega) (by omega)).mp q; omega), y_1, y_sb]
    by_cases h : ¬ s &&& 1 = 1
    · rw [if_pos h, if_pos h]
      exact y_sumI11 x2 x3 t x9 D c k (i + 1) _ (by omega) (by omega)
    · rw [if_neg h, if_neg h]
      exact y_sumI11 x2 x3 t x9 D c k (i + 1) _ (by omega) (by omega)
theorem y_sumO11 (x3 t : Int64) (D : zx_D) (e : Nat) (he : e ≤ 400) : ∀ (c k j : Nat) (s : Int64), c < k → j + c = e → g_P_sumBy_11_6 (nI e) x3 t D k s (nI j) = some (y_fo t (D.1 11) c j s)
  | 0, k + 1, j, s, _, hj => by
    rw [g_P_sumBy_11_6, if_pos ((y_le (by omega) (by omega)).mpr (by omega))]
    rfl
  | c + 1, k + 1, j, s, hk, hj => by
    have h := y_sumI11 (nI e) x3 t (nI j) D 8 10000 0 (s ^^^ (D.1 11 j).toInt64) (by omega) rfl
    have h : g_P_sumBy_11_25 (nI e) x3 t (nI j) D 10000 (s ^^^ (zg_i D 11 j).toInt64) 0 = some _ := h
    rw [g_P_sumBy_11_6, if_neg (fun q => by have := (y_le (by omega) (by omega)).mp q; omega), if_pos (y_in (by omega) (by omega)), y_zn (by omega), h, Option.bind_some, y_1]
    exact y_sumO11 x3 t D e he c k (j + 1) _ (by omega) (by omega)
theorem y_sum4_11 (D : zx_D) {j e : Nat} (he : e ≤ 400) (hj : j ≤ e) : g_P_sumFour_11 (nI j) (nI e) D = some (y_s4 (D.1 11) j (e - j)) := by
  rw [g_P_sumFour_11, g_P_sumBy_11, y_sumO11 _ _ D e he (e - j) 10000 j _ (by omega) (by omega)]
  rfl
theorem y_sum8_11 (D : zx_D) {j e : Nat} (he : e ≤ 400) (hj : j ≤ e) : g_P_sumEight_11 (nI j) (nI e) D = some (y_s8 (D.1 11) j (e - j)) := by
  rw [g_P_sumEight_11, g_P_sumBy_11, y_sumO11 _ _ D e he (e - j) 10000 j _ (by omega) (by omega)]
  rfl
theorem y_fP (D : zx_D) (e : Nat) (he : e ≤ 640) (hb : ∀ i, i < e → y_B (zg_i D 2 i)) : ∀ (c k j : Nat) (s : Int64), c < k → j + c = e → y_P s → g_R_fourOfPacked_7 (nI e) D k s (nI j) = some (y_fo 3988292384 (D.1 2) c j s)
  | 0, k + 1, j, s, _, hj, _ => by
    rw [g_R_fourOfPacked_7, if_pos ((y_le (by omega) (by omega)).mpr (by omega))]
    rfl
  | c + 1, k + 1, j, s, hk, hj, hs => by
    rw [g_R_fourOfPacked_7, if_neg (fun q => by have := (y_le (by omega) (by omega)).mp q; omega), if_pos (y_in (by omega) (by omega)), y_zn (by omega), y_four D hs (hb j (by omega)), Option.bind_some, y_1]
    exact y_fP D e he hb c k (j + 1) _ (by omega) (by omega) (y_by_P y_P_4 hs (hb j (by omega)))
theorem y_sumP (D : zx_D) {j e : Nat} (he : e ≤ 640) (hj : j ≤ e) (hb : ∀ i, i < e → y_B (zg_i D 2 i)) : g_R_fourOfPacked (nI j) (nI e) D = some (y_s4 (D.1 2) j (e - j)) := by
  rw [g_R_fourOfPacked, y_fP D e he hb (e - j) 10000 j _ (by omega) (by omega) y_P_F]
  rfl
theorem y_fM (D : zx_D) (e : Nat) (he : e ≤ 400) (hz : zg_i D 0 5 = nI e) (hb : ∀ i, i < e → y_B (zg_i D 3 i)) : ∀ (c k j : Nat) (s : Int64), c < k → j + c = e → y_P s → g_R_fourOfMade_7 D k s (nI j) = some (y_fo 3988292384 (D.1 3) c j s)
  | 0, k + 1, j, s, _, hj, _ => by
    rw [g_R_fourOfMade_7, hz, if_pos ((y_le (by omega) (by omega)).mpr (by omega))]
    rfl
  | c + 1, k + 1, j, s, hk, hj, hs => by
    rw [g_R_fourOfMade_7, hz, if_neg (fun q => by have := (y_le (by omega) (by omega)).mp q; omega), if_pos (y_in (by omega) (by omega)), y_zn (by omega), y_four D hs (hb j (by omega)), Option.bind_some, y_1]
    exact y_fM D e he hz hb c k (j + 1) _ (by omega) (by omega) (y_by_P y_P_4 hs (hb j (by omega)))
theorem y_sumM (D : zx_D) {j e : Nat} (he : e ≤ 400) (hj : j ≤ e) (hz : zg_i D 0 5 = nI e) (hb : ∀ i, i < e → y_B (zg_i D 3 i)) : g_R_fourOfMade (nI j) D = some (y_s4 (D.1 3) j (e - j)) := by
  rw [g_R_fourOfMade, y_fM D e he hz hb (e - j) 10000 j _ (by omega) (by omega) y_P_F]
  rfl
theorem y_eM (D : zx_D) (e : Nat) (he : e ≤ 400) (hz : zg_i D 0 5 = nI e) : ∀ (c k j : Nat) (s : Int64), c < k → j + c = e → g_R_eightOfMade_7 D k s (nI j) = some (y_fo (-3932672073523589310) (D.1 3) c j s)
  | 0, k + 1, j, s, _, hj => by
    rw [g_R_eightOfMade_7, hz, if_pos ((y_le (by omega) (by omega)).mpr (by omega))]
    rfl
  | c + 1, k + 1, j, s, hk, hj => by
    rw [g_R_eightOfMade_7, hz, if_neg (fun q => by have := (y_le (by omega) (by omega)).mp q; omega), if_pos (y_in (by omega) (by omega)), y_zn (by omega), y_eight D, Option.bind_some, y_1]
    exact y_eM D e he hz c k (j + 1) _ (by omega) (by omega)
theorem y_sumM8 (D : zx_D) {j e : Nat} (he : e ≤ 400) (hj : j ≤ e) (hz : zg_i D 0 5 = nI e) : g_R_eightOfMade (nI j) D = some (y_s8 (D.1 3) j (e - j)) := by
  rw [g_R_eightOfMade, y_eM D e he hz (e - j) 10000 j _ (by omega) (by omega)]
  rfl
theorem y_pl4 (D : zx_D) (e : Nat) (he : e ≤ 400) (hz : zg_i D 0 1 = nI e) (hb : ∀ i, i < e → y_B (zg_i D 1 i)) : ∀ (c k j : Nat) (s : Int64), c < k → j + c = e → y_P s → g_R_sum_b0_17 D k s (nI j) = some (y_fo 3988292384 (D.1 1) c j s)
  | 0, k + 1, j, s, _, hj, _ => by
    rw [g_R_sum_b0_17, hz, if_pos ((y_le (by omega) (by omega)).mpr (by omega))]
    rfl
  | c + 1, k + 1, j, s, hk, hj, hs => by
    rw [g_R_sum_b0_17, hz, if_neg (fun q => by have := (y_le (by omega) (by omega)).mp q; omega), if_pos (y_in (by omega) (by omega)), y_zn (by omega), y_four D hs (hb j (by omega)), Option.bind_some, y_1]
    exact y_pl4 D e he hz hb c k (j + 1) _ (by omega) (by omega) (y_by_P y_P_4 hs (hb j (by omega)))
theorem y_pl8 (D : zx_D) (e : Nat) (he : e ≤ 400) (hz : zg_i D 0 1 = nI e) : ∀ (c k j : Nat) (s : Int64), c < k → j + c = e → g_R_sum_b1_17 D k s (nI j) = some (y_fo (-3932672073523589310) (D.1 1) c j s)
  | 0, k + 1, j, s, _, hj => by
    rw [g_R_sum_b1_17, hz, if_pos ((y_le (by omega) (by omega)).mpr (by omega))]
    rfl
  | c + 1, k + 1, j, s, hk, hj => by
    rw [g_R_sum_b1_17, hz, if_neg (fun q => by have := (y_le (by omega) (by omega)).mp q; omega), if_pos (y_in (by omega) (by omega)), y_zn (by omega), y_eight D, Option.bind_some, y_1]
    exact y_pl8 D e he hz c k (j + 1) _ (by omega) (by omega)
theorem zI_sum0 {n m : Nat} {D R : zx_D} (h : zI n m D R) : g_P_sum_b0 D = some (y_s4 (R.1 1) 0 n) ∧ g_R_sum_b0 R = some (y_s4 (R.1 1) 0 n) := by
  have e1 := y_sum4_2 D (j := 0) h.hn (Nat.zero_le _)
  have e2 := y_pl4 R n h.hn h.pR (fun i hi => (h.pB i hi).2) n 10000 0 4294967295 (by have := h.hn; omega) (by omega) y_P_F
  have e1 : g_P_sumFour_2 0 (nI n) D = some (y_s4 (D.1 2) 0 n) := e1
  constructor
  · rw [g_P_sum_b0, h.pC, e1, Option.bind_some, y_s4_congr (f := D.1 2) (g := R.1 1) (j := 0) (c := n) (fun i _ hi => (h.pB i (by omega)).1)]
  · rw [g_R_sum_b0]
    try rw [g_R_sum_b0_13]
    exact congrArg (fun o => Option.bind o (fun q => some (q ^^^ 4294967295))) e2
theorem zI_sum1 {n m : Nat} {D R : zx_D} (h : zI n m D R) : g_P_sum_b1 D = some (y_s8 (R.1 1) 0 n) ∧ g_R_sum_b1 R = some (y_s8 (R.1 1) 0 n) := by
  have e1 := y_sum8_2 D (j := 0) h.hn (Nat.zero_le _)
  have e2 := y_pl8 R n h.hn h.pR n 10000 0 (-1) (by have := h.hn; omega) (by omega)
  have e1 : g_P_sumEight_2 0 (nI n) D = some (y_s8 (D.1 2) 0 n) := e1
  constructor
  · rw [g_P_sum_b1, h.pC, e1, Option.bind_some, y_s8_congr (f := D.1 2) (g := R.1 1) (j := 0) (c := n) (fun i _ hi => (h.pB i (by omega)).1)]
  · rw [g_R_sum_b1]
    try rw [g_R_sum_b1_13]
    exact congrArg (fun o => Option.bind o (fun q => some (q ^^^ (-1)))) e2
