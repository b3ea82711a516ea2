/-! Sums of bytes -/
def zc_bit (turn s : Int64) : Int64 := if ¬ s &&& 1 = 1 then zo_lushr s 1 else zo_lushr s 1 ^^^ turn
def zc_bits (turn : Int64) : Nat → Int64 → Int64
  | 0, s => s
  | k + 1, s => zc_bits turn k (zc_bit turn s)
def zc_sum (turn : Int64) (f : Nat → Int32) : Nat → Nat → Int64 → Int64
  | 0, _, s => s
  | k + 1, j, s => zc_sum turn f k (j + 1) (zc_bits turn 8 (s ^^^ (f j).toInt64))
set_option maxRecDepth 100000 in
set_option maxHeartbeats 4000000 in
theorem t_sumBy_2 {l : Launch} {E : zx_E} {d : Nat} {rf : List Nat} (s c : Nat) (ones turn : Int64) (D : zx_D) (hs : s + c ≤ 400) : zx_MC l E 19 d [.ref 2, .int (nI s), .int (nI (s + c)), .long ones, .long turn] (rf, D) (fun v S => v = some (.long (zc_sum turn (D.1 2) c s ones ^^^ ones)) ∧ S = (rf, D)) := by
  refine zx_ofC (K := ck_P_sumBy) rfl (by decide +kernel) rfl ok_P_sumBy (Nat.le_of_ble_eq_true rfl) (fun Zp hr => ?_)
  show Zp (0, [some (.ref 2), some (.int (nI s)), some (.int (nI (s + c))), some (.long ones), none, some (.long turn), none, none, none, none, none], [], rf, D)
  have inner : ∀ (k : Nat) (s1 : Int64) (i9 : Int32), k ≤ 8 → Zp (63, [some (.ref 2), some (.int (nI s)), some (.int (nI (s + c))), some (.long ones), none, some (.long turn), none, some (.long (zc_bits turn k s1)), none, some (.int i9), some (.int (nI 8))], [], rf, D) → Zp (25, [some (.ref 2), some (.int (nI s)), some (.int (nI (s + c))), some (.long ones), none, some (.long turn), none, some (.long s1), none, some (.int i9), some (.int (nI (8 - k)))], [], rf, D) := by
    intro k
    induction k with
    | zero =>
      intro s1 i9 h8 hk
      refine hr.1 2 True _ _ (29, [some (.ref 2), some (.int (nI s)), some (.int (nI (s + c))), some (.long ones), none, some (.long turn), none, some (.long s1), none, some (.int i9), some (.int (nI (8 - 0)))], [.int 8, .int (nI (8 - 0))], rf, D) rfl trivial ?_
      refine hr.2.1 _ (8 ≤ nI (8 - 0)) _ _ rfl (fun _ => ?_) (fun h => absurd (by decide) h)
      exact hk
    | succ k ih =>
      intro s1 i9 h8 hk
      refine hr.1 2 True _ _ (29, [some (.ref 2), some (.int (nI s)), some (.int (nI (s + c))), some (.long ones), none, some (.long turn), none, some (.long s1), none, some (.int i9), some (.int (nI (8 - (k + 1))))], [.int 8, .int (nI (8 - (k + 1)))], rf, D) rfl trivial ?_
      refine hr.2.1 _ (8 ≤ nI (8 - (k + 1))) _ _ rfl (fun h => absurd h (by rw [show (8 : Int32) = nI 8 from rfl, nI_leI (by omega) (by omega)]; omega)) (fun _ => ?_)
      refine hr.1 4 True _ _ (37, [some (.ref 2), some (.int (nI s)), some (.int (nI (s + c))), some (.long ones), none, some (.long turn), none, some (.long s1), none, some (.int i9), some (.int (nI (8 - (k + 1))))], [.long 1, .long (s1 &&& 1)], rf, D) rfl trivial ?_
      refine hr.2.1 _ (¬ s1 &&& 1 = 1) _ _ rfl (fun h37 => ?_) (fun h37 => ?_)
      · skip
        refine hr.1 6 True _ _ (25, [some (.ref 2), some (.int (nI s)), some (.int (nI (s + c))), some (.long ones), none, some (.long turn), none, some (.long (zo_lushr s1 1)), none, some (.int i9), some (.int ((nI (8 - (k + 1))) + 1))], [], rf, D) rfl trivial ?_
        rw [nI_1, show 8 - (k + 1) + 1 = 8 - k by omega]
        exact ih _ _ (by omega) (by rw [zc_bits, zc_bit, if_pos h37] at hk; exact hk)
      · skip
        refine hr.1 9 True _ _ (25, [some (.ref 2), some (.int (nI s)), some (.int (nI (s + c))), some (.long ones), none, some (.long turn), none, some (.long ((zo_lushr s1 1) ^^^ turn)), none, some (.int i9), some (.int ((nI (8 - (k + 1))) + 1))], [], rf, D) rfl trivial ?_
        rw [nI_1, show 8 - (k + 1) + 1 = 8 - k by omega]
        exact ih _ _ (by omega) (by rw [zc_bits, zc_bit, if_neg h37] at hk; exact hk)
  have outer : ∀ (k : Nat) (j : Nat) (s1 : Int64) (o10 : Option Value), j + k = s + c → zc_sum turn (D.1 2) k j s1 = zc_sum turn (D.1 2) c s ones → Zp (6, [some (.ref 2), some (.int (nI s)), some (.int (nI (s + c))), some (.long ones), none, some (.long turn), none, some (.long s1), none, some (.int (nI j)), o10], [], rf, D) := by
    intro k
    induction k with
    | zero =>
      intro j s1 o10 hj hf
      rw [Nat.add_zero] at hj
      refine hr.1 2 True _ _ (9, [some (.ref 2), some (.int (nI s)), some (.int (nI (s + c))), some (.long ones), none, some (.long turn), none, some (.long s1), none, some (.int (nI j)), o10], [.int (nI (s + c)), .int (nI j)], rf, D) rfl trivial ?_
      refine hr.2.1 _ (nI (s + c) ≤ nI j) _ _ rfl (fun _ => ?_) (fun h => absurd (by rw [hj]; exact nI_le (Nat.le_refl _) (by omega)) h)
      refine hr.1 3 True _ _ (73, [some (.ref 2), some (.int (nI s)), some (.int (nI (s + c))), some (.long ones), none, some (.long turn), none, some (.long s1), none, some (.int (nI j)), o10], [.long (s1 ^^^ ones)], rf, D) rfl trivial ?_
      exact hr.2.2.2 _ _ _ rfl trivial ⟨by rw [← hf]; rfl, rfl⟩
    | succ k ih =>
      intro j s1 o10 hj hf
      refine hr.1 2 True _ _ (9, [some (.ref 2), some (.int (nI s)), some (.int (nI (s + c))), some (.long ones), none, some (.long turn), none, some (.long s1), none, some (.int (nI j)), o10], [.int (nI (s + c)), .int (nI j)], rf, D) rfl trivial ?_
      refine hr.2.1 _ (nI (s + c) ≤ nI j) _ _ rfl (fun h => absurd h (by rw [nI_leI (by omega) (by omega)]; omega)) (fun _ => ?_)
      refine hr.1 9 True _ _ (25, [some (.ref 2), some (.int (nI s)), some (.int (nI (s + c))), some (.long ones), none, some (.long turn), none, some (.long (s1 ^^^ (((zg_i D 2 (zn (nI j)))).toInt64))), none, some (.int (nI j)), some (.int 0)], [], rf, D) rfl ⟨trivial, (pk_in j 400 (by omega))⟩ ?_
      refine inner 8 _ _ (by omega) ?_
      refine hr.1 2 True _ _ (6, [some (.ref 2), some (.int (nI s)), some (.int (nI (s + c))), some (.long ones), none, some (.long turn), none, some (.long (zc_bits turn 8 (s1 ^^^ (zg_i D 2 (zn (nI j))).toInt64))), none, some (.int ((nI j) + 1)), some (.int (nI 8))], [], rf, D) rfl trivial ?_
      rw [nI_1]
      exact ih (j + 1) _ _ (by omega) (by rw [← hf]; unfold zg_i; rw [zn_nI (by omega)]; rfl)
  refine hr.1 4 True _ _ (6, [some (.ref 2), some (.int (nI s)), some (.int (nI (s + c))), some (.long ones), none, some (.long turn), none, some (.long ones), none, some (.int (nI s)), none], [], rf, D) rfl trivial ?_
  exact outer c s ones none rfl rfl
def zc_sum4 (f : Nat → Int32) (c s : Nat) : Int64 := zc_sum (3988292384) f c s (4294967295) ^^^ (4294967295)
set_option maxRecDepth 100000 in
set_option maxHeartbeats 4000000 in
theorem t_sum4_2 {l : Launch} {E : zx_E} {d : Nat} {rf : List Nat} (s c : Nat) (D : zx_D) (hs : s + c ≤ 400) : zx_MC l E 17 (d + 1) [.ref 2, .int (nI s), .int (nI (s + c))] (rf, D) (fun v S => v = some (.long (zc_sum4 (D.1 2) c s)) ∧ S = (rf, D)) := by
  refine zx_ofC (K := ck_P_sumFour) rfl (by decide +kernel) rfl ok_P_sumFour (Nat.le_of_ble_eq_true rfl) (fun Zp hr => ?_)
  show Zp (0, [some (.ref 2), some (.int (nI s)), some (.int (nI (s + c)))], [], rf, D)
  refine hr.1 5 True _ _ (9, [some (.ref 2), some (.int (nI s)), some (.int (nI (s + c)))], [.long 3988292384, .long 4294967295, .int (nI (s + c)), .int (nI s), .ref 2], rf, D) rfl trivial ?_
  refine hr.2.2.1 _ _ _ _ _ d rfl (by omega) (t_sumBy_2 s c 4294967295 3988292384 D hs) (fun v S hq => ?_)
  obtain ⟨rfl, rfl⟩ := hq
  exact hr.2.2.2 _ _ _ rfl trivial ⟨rfl, rfl⟩
def zc_sum8 (f : Nat → Int32) (c s : Nat) : Int64 := zc_sum (-3932672073523589310) f c s (-1) ^^^ (-1)
set_option maxRecDepth 100000 in
set_option maxHeartbeats 4000000 in
theorem t_sum8_2 {l : Launch} {E : zx_E} {d : Nat} {rf : List Nat} (s c : Nat) (D : zx_D) (hs : s + c ≤ 400) : zx_MC l E 18 (d + 1) [.ref 2, .int (nI s), .int (nI (s + c))] (rf, D) (fun v S => v = some (.long (zc_sum8 (D.1 2) c s)) ∧ S = (rf, D)) := by
  refine zx_ofC (K := ck_P_sumEight) rfl (by decide +kernel) rfl ok_P_sumEight (Nat.le_of_ble_eq_true rfl) (fun Zp hr => ?_)
  show Zp (0, [some (.ref 2), some (.int (nI s)), some (.int (nI (s + c)))], [], rf, D)
  refine hr.1 5 True _ _ (9, [some (.ref 2), some (.int (nI s)), some (.int (nI (s + c)))], [.long (-3932672073523589310), .long (-1), .int (nI (s + c)), .int (nI s), .ref 2], rf, D) rfl trivial ?_
  refine hr.2.2.1 _ _ _ _ _ d rfl (by omega) (t_sumBy_2 s c (-1) (-3932672073523589310) D hs) (fun v S hq => ?_)
  obtain ⟨rfl, rfl⟩ := hq
  exact hr.2.2.2 _ _ _ rfl trivial ⟨rfl, rfl⟩
set_option maxRecDepth 100000 in
set_option maxHeartbeats 4000000 in
theorem t_sumBy_4 {l : Launch} {E : zx_E} {d : Nat} {rf : List Nat} (s c : Nat) (ones turn : Int64) (D : zx_D) (hs : s + c ≤ 640) : zx_MC l E 19 d [.ref 4, .int (nI s), .int (nI (s + c)), .long ones, .long turn] (rf, D) (fun v S => v = some (.long (zc_sum turn (D.1 4) c s ones ^^^ ones)) ∧ S = (rf, D)) := by
  refine zx_ofC (K := ck_P_sumBy) rfl (by decide +kernel) rfl ok_P_sumBy (Nat.le_of_ble_eq_true rfl) (fun Zp hr => ?_)
  show Zp (0, [some (.ref 4), some (.int (nI s)), some (.int (nI (s + c))), some (.long ones), none, some (.long turn), none, none, none, none, none], [], rf, D)
  have inner : ∀ (k : Nat) (s1 : Int64) (i9 : Int32), k ≤ 8 → Zp (63, [some (.ref 4), some (.int (nI s)), some (.int (nI (s + c))), some (.long ones), none, some (.long turn), none, some (.long (zc_bits turn k s1)), none, some (.int i9), some (.int (nI 8))], [], rf, D) → Zp (25, [some (.ref 4), some (.int (nI s)), some (.int (nI (s + c))), some (.long ones), none, some (.long turn), none, some (.long s1), none, some (.int i9), some (.int (nI (8 - k)))], [], rf, D) := by
    intro k
    induction k with
    | zero =>
      intro s1 i9 h8 hk
      refine hr.1 2 True _ _ (29, [some (.ref 4), some (.int (nI s)), some (.int (nI (s + c))), some (.long ones), none, some (.long turn), none, some (.long s1), none, some (.int i9), some (.int (nI (8 - 0)))], [.int 8, .int (nI (8 - 0))], rf, D) rfl trivial ?_
      refine hr.2.1 _ (8 ≤ nI (8 - 0)) _ _ rfl (fun _ => ?_) (fun h => absurd (by decide) h)
      exact hk
    | succ k ih =>
      intro s1 i9 h8 hk
      refine hr.1 2 True _ _ (29, [some (.ref 4), some (.int (nI s)), some (.int (nI (s + c))), some (.long ones), none, some (.long turn), none, some (.long s1), none, some (.int i9), some (.int (nI (8 - (k + 1))))], [.int 8, .int (nI (8 - (k + 1)))], rf, D) rfl trivial ?_
      refine hr.2.1 _ (8 ≤ nI (8 - (k + 1))) _ _ rfl (fun h => absurd h (by rw [show (8 : Int32) = nI 8 from rfl, nI_leI (by omega) (by omega)]; omega)) (fun _ => ?_)
      refine hr.1 4 True _ _ (37, [some (.ref 4), some (.int (nI s)), some (.int (nI (s + c))), some (.long ones), none, some (.long turn), none, some (.long s1), none, some (.int i9), some (.int (nI (8 - (k + 1))))], [.long 1, .long (s1 &&& 1)], rf, D) rfl trivial ?_
      refine hr.2.1 _ (¬ s1 &&& 1 = 1) _ _ rfl (fun h37 => ?_) (fun h37 => ?_)
      · skip
        refine hr.1 6 True _ _ (25, [some (.ref 4), some (.int (nI s)), some (.int (nI (s + c))), some (.long ones), none, some (.long turn), none, some (.long (zo_lushr s1 1)), none, some (.int i9), some (.int ((nI (8 - (k + 1))) + 1))], [], rf, D) rfl trivial ?_
        rw [nI_1, show 8 - (k + 1) + 1 = 8 - k by omega]
        exact ih _ _ (by omega) (by rw [zc_bits, zc_bit, if_pos h37] at hk; exact hk)
      · skip
        refine hr.1 9 True _ _ (25, [some (.ref 4), some (.int (nI s)), some (.int (nI (s + c))), some (.long ones), none, some (.long turn), none, some (.long ((zo_lushr s1 1) ^^^ turn)), none, some (.int i9), some (.int ((nI (8 - (k + 1))) + 1))], [], rf, D) rfl trivial ?_
        rw [nI_1, show 8 - (k + 1) + 1 = 8 - k by omega]
        exact ih _ _ (by omega) (by rw [zc_bits, zc_bit, if_neg h37] at hk; exact hk)
  have outer : ∀ (k : Nat) (j : Nat) (s1 : Int64) (o10 : Option Value), j + k = s + c → zc_sum turn (D.1 4) k j s1 = zc_sum turn (D.1 4) c s ones → Zp (6, [some (.ref 4), some (.int (nI s)), some (.int (nI (s + c))), some (.long ones), none, some (.long turn), none, some (.long s1), none, some (.int (nI j)), o10], [], rf, D) := by
    intro k
    induction k with
    | zero =>
      intro j s1 o10 hj hf
      rw [Nat.add_zero] at hj
      refine hr.1 2 True _ _ (9, [some (.ref 4), some (.int (nI s)), some (.int (nI (s + c))), some (.long ones), none, some (.long turn), none, some (.long s1), none, some (.int (nI j)), o10], [.int (nI (s + c)), .int (nI j)], rf, D) rfl trivial ?_
      refine hr.2.1 _ (nI (s + c) ≤ nI j) _ _ rfl (fun _ => ?_) (fun h => absurd (by rw [hj]; exact nI_le (Nat.le_refl _) (by omega)) h)
      refine hr.1 3 True _ _ (73, [some (.ref 4), some (.int (nI s)), some (.int (nI (s + c))), some (.long ones), none, some (.long turn), none, some (.long s1), none, some (.int (nI j)), o10], [.long (s1 ^^^ ones)], rf, D) rfl trivial ?_
      exact hr.2.2.2 _ _ _ rfl trivial ⟨by rw [← hf]; rfl, rfl⟩
    | succ k ih =>
      intro j s1 o10 hj hf
      refine hr.1 2 True _ _ (9, [some (.ref 4), some (.int (nI s)), some (.int (nI (s + c))), some (.long ones), none, some (.long turn), none, some (.long s1), none, some (.int (nI j)), o10], [.int (nI (s + c)), .int (nI j)], rf, D) rfl trivial ?_
      refine hr.2.1 _ (nI (s + c) ≤ nI j) _ _ rfl (fun h => absurd h (by rw [nI_leI (by omega) (by omega)]; omega)) (fun _ => ?_)
      refine hr.1 9 True _ _ (25, [some (.ref 4), some (.int (nI s)), some (.int (nI (s + c))), some (.long ones), none, some (.long turn), none, some (.long (s1 ^^^ (((zg_i D 4 (zn (nI j)))).toInt64))), none, some (.int (nI j)), some (.int 0)], [], rf, D) rfl ⟨trivial, (pk_in j 640 (by omega))⟩ ?_
      refine inner 8 _ _ (by omega) ?_
      refine hr.1 2 True _ _ (6, [some (.ref 4), some (.int (nI s)), some (.int (nI (s + c))), some (.long ones), none, some (.long turn), none, some (.long (zc_bits turn 8 (s1 ^^^ (zg_i D 4 (zn (nI j))).toInt64))), none, some (.int ((nI j) + 1)), some (.int (nI 8))], [], rf, D) rfl trivial ?_
      rw [nI_1]
      exact ih (j + 1) _ _ (by omega) (by rw [← hf]; unfold zg_i; rw [zn_nI (by omega)]; rfl)
  refine hr.1 4 True _ _ (6, [some (.ref 4), some (.int (nI s)), some (.int (nI (s + c))), some (.long ones), none, some (.long turn), none, some (.long ones), none, some (.int (nI s)), none], [], rf, D) rfl trivial ?_
  exact outer c s ones none rfl rfl
set_option maxRecDepth 100000 in
set_option maxHeartbeats 4000000 in
theorem t_sum4_4 {l : Launch} {E : zx_E} {d : Nat} {rf : List Nat} (s c : Nat) (D : zx_D) (hs : s + c ≤ 640) : zx_MC l E 17 (d + 1) [.ref 4, .int (nI s), .int (nI (s + c))] (rf, D) (fun v S => v = some (.long (zc_sum4 (D.1 4) c s)) ∧ S = (rf, D)) := by
  refine zx_ofC (K := ck_P_sumFour) rfl (by decide +kernel) rfl ok_P_sumFour (Nat.le_of_ble_eq_true rfl) (fun Zp hr => ?_)
  show Zp (0, [some (.ref 4), some (.int (nI s)), some (.int (nI (s + c)))], [], rf, D)
  refine hr.1 5 True _ _ (9, [some (.ref 4), some (.int (nI s)), some (.int (nI (s + c)))], [.long 3988292384, .long 4294967295, .int (nI (s + c)), .int (nI s), .ref 4], rf, D) rfl trivial ?_
  refine hr.2.2.1 _ _ _ _ _ d rfl (by omega) (t_sumBy_4 s c 4294967295 3988292384 D hs) (fun v S hq => ?_)
  obtain ⟨rfl, rfl⟩ := hq
  exact hr.2.2.2 _ _ _ rfl trivial ⟨rfl, rfl⟩
set_option maxRecDepth 100000 in
set_option maxHeartbeats 4000000 in
theorem t_sumBy_11 {l : Launch} {E : zx_E} {d : Nat} {rf : List Nat} (s c : Nat) (ones turn : Int64) (D : zx_D) (hs : s + c ≤ 400) : zx_MC l E 19 d [.ref 11, .int (nI s), .int (nI (s + c)), .long ones, .long turn] (rf, D) (fun v S => v = some (.long (zc_sum turn (D.1 11) c s ones ^^^ ones)) ∧ S = (rf, D)) := by
  refine zx_ofC (K := ck_P_sumBy) rfl (by decide +kernel) rfl ok_P_sumBy (Nat.le_of_ble_eq_true rfl) (fun Zp hr => ?_)
  show Zp (0, [some (.ref 11), some (.int (nI s)), some (.int (nI (s + c))), some (.long ones), none, some (.long turn), none, none, none, none, none], [], rf, D)
  have inner : ∀ (k : Nat) (s1 : Int64) (i9 : Int32), k ≤ 8 → Zp (63, [some (.ref 11), some (.int (nI s)), some (.int (nI (s + c))), some (.long ones), none, some (.long turn), none, some (.long (zc_bits turn k s1)), none, some (.int i9), some (.int (nI 8))], [], rf, D) → Zp (25, [some (.ref 11), some (.int (nI s)), some (.int (nI (s + c))), some (.long ones), none, some (.long turn), none, some (.long s1), none, some (.int i9), some (.int (nI (8 - k)))], [], rf, D) := by
    intro k
    induction k with
    | zero =>
      intro s1 i9 h8 hk
      refine hr.1 2 True _ _ (29, [some (.ref 11), some (.int (nI s)), some (.int (nI (s + c))), some (.long ones), none, some (.long turn), none, some (.long s1), none, some (.int i9), some (.int (nI (8 - 0)))], [.int 8, .int (nI (8 - 0))], rf, D) rfl trivial ?_
      refine hr.2.1 _ (8 ≤ nI (8 - 0)) _ _ rfl (fun _ => ?_) (fun h => absurd (by decide) h)
      exact hk
    | succ k ih =>
      intro s1 i9 h8 hk
      refine hr.1 2 True _ _ (29, [some (.ref 11), some (.int (nI s)), some (.int (nI (s + c))), some (.long ones), none, some (.long turn), none, some (.long s1), none, some (.int i9), some (.int (nI (8 - (k + 1))))], [.int 8, .int (nI (8 - (k + 1)))], rf, D) rfl trivial ?_
      refine hr.2.1 _ (8 ≤ nI (8 - (k + 1))) _ _ rfl (fun h => absurd h (by rw [show (8 : Int32) = nI 8 from rfl, nI_leI (by omega) (by omega)]; omega)) (fun _ => ?_)
      refine hr.1 4 True _ _ (37, [some (.ref 11), some (.int (nI s)), some (.int (nI (s + c))), some (.long ones), none, some (.long turn), none, some (.long s1), none, some (.int i9), some (.int (nI (8 - (k + 1))))], [.long 1, .long (s1 &&& 1)], rf, D) rfl trivial ?_
      refine hr.2.1 _ (¬ s1 &&& 1 = 1) _ _ rfl (fun h37 => ?_) (fun h37 => ?_)
      · skip
        refine hr.1 6 True _ _ (25, [some (.ref 11), some (.int (nI s)), some (.int (nI (s + c))), some (.long ones), none, some (.long turn), none, some (.long (zo_lushr s1 1)), none, some (.int i9), some (.int ((nI (8 - (k + 1))) + 1))], [], rf, D) rfl trivial ?_
        rw [nI_1, show 8 - (k + 1) + 1 = 8 - k by omega]
        exact ih _ _ (by omega) (by rw [zc_bits, zc_bit, if_pos h37] at hk; exact hk)
      · skip
        refine hr.1 9 True _ _ (25, [some (.ref 11), some (.int (nI s)), some (.int (nI (s + c))), some (.long ones), none, some (.long turn), none, some (.long ((zo_lushr s1 1) ^^^ turn)), none, some (.int i9), some (.int ((nI (8 - (k + 1))) + 1))], [], rf, D) rfl trivial ?_
        rw [nI_1, show 8 - (k + 1) + 1 = 8 - k by omega]
        exact ih _ _ (by omega) (by rw [zc_bits, zc_bit, if_neg h37] at hk; exact hk)
  have outer : ∀ (k : Nat) (j : Nat) (s1 : Int64) (o10 : Option Value), j + k = s + c → zc_sum turn (D.1 11) k j s1 = zc_sum turn (D.1 11) c s ones → Zp (6, [some (.ref 11), some (.int (nI s)), some (.int (nI (s + c))), some (.long ones), none, some (.long turn), none, some (.long s1), none, some (.int (nI j)), o10], [], rf, D) := by
    intro k
    induction k with
    | zero =>
      intro j s1 o10 hj hf
      rw [Nat.add_zero] at hj
      refine hr.1 2 True _ _ (9, [some (.ref 11), some (.int (nI s)), some (.int (nI (s + c))), some (.long ones), none, some (.long turn), none, some (.long s1), none, some (.int (nI j)), o10], [.int (nI (s + c)), .int (nI j)], rf, D) rfl trivial ?_
      refine hr.2.1 _ (nI (s + c) ≤ nI j) _ _ rfl (fun _ => ?_) (fun h => absurd (by rw [hj]; exact nI_le (Nat.le_refl _) (by omega)) h)
      refine hr.1 3 True _ _ (73, [some (.ref 11), some (.int (nI s)), some (.int (nI (s + c))), some (.long ones), none, some (.long turn), none, some (.long s1), none, some (.int (nI j)), o10], [.long (s1 ^^^ ones)], rf, D) rfl trivial ?_
      exact hr.2.2.2 _ _ _ rfl trivial ⟨by rw [← hf]; rfl, rfl⟩
    | succ k ih =>
      intro j s1 o10 hj hf
      refine hr.1 2 True _ _ (9, [some (.ref 11), some (.int (nI s)), some (.int (nI (s + c))), some (.long ones), none, some (.long turn), none, some (.long s1), none, some (.int (nI j)), o10], [.int (nI (s + c)), .int (nI j)], rf, D) rfl trivial ?_
      refine hr.2.1 _ (nI (s + c) ≤ nI j) _ _ rfl (fun h => absurd h (by rw [nI_leI (by omega) (by omega)]; omega)) (fun _ => ?_)
      refine hr.1 9 True _ _ (25, [some (.ref 11), some (.int (nI s)), some (.int (nI (s + c))), some (.long ones), none, some (.long turn), none, some (.long (s1 ^^^ (((zg_i D 11 (zn (nI j)))).toInt64))), none, some (.int (nI j)), some (.int 0)], [], rf, D) rfl ⟨trivial, (pk_in j 400 (by omega))⟩ ?_
      refine inner 8 _ _ (by omega) ?_
      refine hr.1 2 True _ _ (6, [some (.ref 11), some (.int (nI s)), some (.int (nI (s + c))), some (.long ones), none, some (.long turn), none, some (.long (zc_bits turn 8 (s1 ^^^ (zg_i D 11 (zn (nI j))).toInt64))), none, some (.int ((nI j) + 1)), some (.int (nI 8))], [], rf, D) rfl trivial ?_
      rw [nI_1]
      exact ih (j + 1) _ _ (by omega) (by rw [← hf]; unfold zg_i; rw [zn_nI (by omega)]; rfl)
  refine hr.1 4 True _ _ (6, [some (.ref 11), some (.int (nI s)), some (.int (nI (s + c))), some (.long ones), none, some (.long turn), none, some (.long ones), none, some (.int (nI s)), none], [], rf, D) rfl trivial ?_
  exact outer c s ones none rfl rfl
set_option maxRecDepth 100000 in
set_option maxHeartbeats 4000000 in
theorem t_sum4_11 {l : Launch} {E : zx_E} {d : Nat} {rf : List Nat} (s c : Nat) (D : zx_D) (hs : s + c ≤ 400) : zx_MC l E 17 (d + 1) [.ref 11, .int (nI s), .int (nI (s + c))] (rf, D) (fun v S => v = some (.long (zc_sum4 (D.1 11) c s)) ∧ S = (rf, D)) := by
  refine zx_ofC (K := ck_P_sumFour) rfl (by decide +kernel) rfl ok_P_sumFour (Nat.le_of_ble_eq_true rfl) (fun Zp hr => ?_)
  show Zp (0, [some (.ref 11), some (.int (nI s)), some (.int (nI (s + c)))], [], rf, D)
  refine hr.1 5 True _ _ (9, [some (.ref 11), some (.int (nI s)), some (.int (nI (s + c)))], [.long 3988292384, .long 4294967295, .int (nI (s + c)), .int (nI s), .ref 11], rf, D) rfl trivial ?_
  refine hr.2.2.1 _ _ _ _ _ d rfl (by omega) (t_sumBy_11 s c 4294967295 3988292384 D hs) (fun v S hq => ?_)
  obtain ⟨rfl, rfl⟩ := hq
  exact hr.2.2.2 _ _ _ rfl trivial ⟨rfl, rfl⟩
set_option maxRecDepth 100000 in
set_option maxHeartbeats 4000000 in
theorem t_sum8_11 {l : Launch} {E : zx_E} {d : Nat} {rf : List Nat} (s c : Nat) (D : zx_D) (hs : s + c ≤ 400) : zx_MC l E 18 (d + 1) [.ref 11, .int (nI s), .int (nI (s + c))] (rf, D) (fun v S => v = some (.long (zc_sum8 (D.1 11) c s)) ∧ S = (rf, D)) := by
  refine zx_ofC (K := ck_P_sumEight) rfl (by decide +kernel) rfl ok_P_sumEight (Nat.le_of_ble_eq_true rfl) (fun Zp hr => ?_)
  show Zp (0, [some (.ref 11), some (.int (nI s)), some (.int (nI (s + c)))], [], rf, D)
  refine hr.1 5 True _ _ (9, [some (.ref 11), some (.int (nI s)), some (.int (nI (s + c)))], [.long (-3932672073523589310), .long (-1), .int (nI (s + c)), .int (nI s), .ref 11], rf, D) rfl trivial ?_
  refine hr.2.2.1 _ _ _ _ _ d rfl (by omega) (t_sumBy_11 s c (-1) (-3932672073523589310) D hs) (fun v S hq => ?_)
  obtain ⟨rfl, rfl⟩ := hq
  exact hr.2.2.2 _ _ _ rfl trivial ⟨rfl, rfl⟩
set_option maxRecDepth 100000 in
set_option maxHeartbeats 4000000 in
theorem t_sumBy_19 {l : Launch} {E : zx_E} {d : Nat} {rf : List Nat} (s c : Nat) (ones turn : Int64) (D : zx_D) (hs : s + c ≤ 640) : zx_MC l E 19 d [.ref 19, .int (nI s), .int (nI (s + c)), .long ones, .long turn] (rf, D) (fun v S => v = some (.long (zc_sum turn (D.1 19) c s ones ^^^ ones)) ∧ S = (rf, D)) := by
  refine zx_ofC (K := ck_P_sumBy) rfl (by decide +kernel) rfl ok_P_sumBy (Nat.le_of_ble_eq_true rfl) (fun Zp hr => ?_)
  show Zp (0, [some (.ref 19), some (.int (nI s)), some (.int (nI (s + c))), some (.long ones), none, some (.long turn), none, none, none, none, none], [], rf, D)
  have inner : ∀ (k : Nat) (s1 : Int64) (i9 : Int32), k ≤ 8 → Zp (63, [some (.ref 19), some (.int (nI s)), some (.int (nI (s + c))), some (.long ones), none, some (.long turn), none, some (.long (zc_bits turn k s1)), none, some (.int i9), some (.int (nI 8))], [], rf, D) → Zp (25, [some (.ref 19), some (.int (nI s)), some (.int (nI (s + c))), some (.long ones), none, some (.long turn), none, some (.long s1), none, some (.int i9), some (.int (nI (8 - k)))], [], rf, D) := by
    intro k
    induction k with
    | zero =>
      intro s1 i9 h8 hk
      refine hr.1 2 True _ _ (29, [some (.ref 19), some (.int (nI s)), some (.int (nI (s + c))), some (.long ones), none, some (.long turn), none, some (.long s1), none, some (.int i9), some (.int (nI (8 - 0)))], [.int 8, .int (nI (8 - 0))], rf, D) rfl trivial ?_
      refine hr.2.1 _ (8 ≤ nI (8 - 0)) _ _ rfl (fun _ => ?_) (fun h => absurd (by decide) h)
      exact hk
    | succ k ih =>
      intro s1 i9 h8 hk
      refine hr.1 2 True _ _ (29, [some (.ref 19), some (.int (nI s)), some (.int (nI (s + c))), some (.long ones), none, some (.long turn), none, some (.long s1), none, some (.int i9), some (.int (nI (8 - (k + 1))))], [.int 8, .int (nI (8 - (k + 1)))], rf, D) rfl trivial ?_
      refine hr.2.1 _ (8 ≤ nI (8 - (k + 1))) _ _ rfl (fun h => absurd h (by rw [show (8 : Int32) = nI 8 from rfl, nI_leI (by omega) (by omega)]; omega)) (fun _ => ?_)
      refine hr.1 4 True _ _ (37, [some (.ref 19), some (.int (nI s)), some (.int (nI (s + c))), some (.long ones), none, some (.long turn), none, some (.long s1), none, some (.int i9), some (.int (nI (8 - (k + 1))))], [.long 1, .long (s1 &&& 1)], rf, D) rfl trivial ?_
      refine hr.2.1 _ (¬ s1 &&& 1 = 1) _ _ rfl (fun h37 => ?_) (fun h37 => ?_)
      · skip
        refine hr.1 6 True _ _ (25, [some (.ref 19), some (.int (nI s)), some (.int (nI (s + c))), some (.long ones), none, some (.long turn), none, some (.long (zo_lushr s1 1)), none, some (.int i9), some (.int ((nI (8 - (k + 1))) + 1))], [], rf, D) rfl trivial ?_
        rw [nI_1, show 8 - (k + 1) + 1 = 8 - k by omega]
        exact ih _ _ (by omega) (by rw [zc_bits, zc_bit, if_pos h37] at hk; exact hk)
      · skip
        refine hr.1 9 True _ _ (25, [some (.ref 19), some (.int (nI s)), some (.int (nI (s + c))), some (.long ones), none, some (.long turn), none, some (.long ((zo_lushr s1 1) ^^^ turn)), none, some (.int i9), some (.int ((nI (8 - (k + 1))) + 1))], [], rf, D) rfl trivial ?_
        rw [nI_1, show 8 - (k + 1) + 1 = 8 - k by omega]
        exact ih _ _ (by omega) (by rw [zc_bits, zc_bit, if_neg h37] at hk; exact hk)
  have outer : ∀ (k : Nat) (j : Nat) (s1 : Int64) (o10 : Option Value), j + k = s + c → zc_sum turn (D.1 19) k j s1 = zc_sum turn (D.1 19) c s ones → Zp (6, [some (.ref 19), some (.int (nI s)), some (.int (nI (s + c))), some (.long ones), none, some (.long turn), none, some (.long s1), none, some (.int (nI j)), o10], [], rf, D) := by
    intro k
    induction k with
    | zero =>
      intro j s1 o10 hj hf
      rw [Nat.add_zero] at hj
      refine hr.1 2 True _ _ (9, [some (.ref 19), some (.int (nI s)), some (.int (nI (s + c))), some (.long ones), none, some (.long turn), none, some (.long s1), none, some (.int (nI j)), o10], [.int (nI (s + c)), .int (nI j)], rf, D) rfl trivial ?_
      refine hr.2.1 _ (nI (s + c) ≤ nI j) _ _ rfl (fun _ => ?_) (fun h => absurd (by rw [hj]; exact nI_le (Nat.le_refl _) (by omega)) h)
      refine hr.1 3 True _ _ (73, [some (.ref 19), some (.int (nI s)), some (.int (nI (s + c))), some (.long ones), none, some (.long turn), none, some (.long s1), none, some (.int (nI j)), o10], [.long (s1 ^^^ ones)], rf, D) rfl trivial ?_
      exact hr.2.2.2 _ _ _ rfl trivial ⟨by rw [← hf]; rfl, rfl⟩
    | succ k ih =>
      intro j s1 o10 hj hf
      refine hr.1 2 True _ _ (9, [some (.ref 19), some (.int (nI s)), some (.int (nI (s + c))), some (.long ones), none, some (.long turn), none, some (.long s1), none, some (.int (nI j)), o10], [.int (nI (s + c)), .int (nI j)], rf, D) rfl trivial ?_
      refine hr.2.1 _ (nI (s + c) ≤ nI j) _ _ rfl (fun h => absurd h (by rw [nI_leI (by omega) (by omega)]; omega)) (fun _ => ?_)
      refine hr.1 9 True _ _ (25, [some (.ref 19), some (.int (nI s)), some (.int (nI (s + c))), some (.long ones), none, some (.long turn), none, some (.long (s1 ^^^ (((zg_i D 19 (zn (nI j)))).toInt64))), none, some (.int (nI j)), some (.int 0)], [], rf, D) rfl ⟨trivial, (pk_in j 640 (by omega))⟩ ?_
      refine inner 8 _ _ (by omega) ?_
      refine hr.1 2 True _ _ (6, [some (.ref 19), some (.int (nI s)), some (.int (nI (s + c))), some (.long ones), none, some (.long turn), none, some (.long (zc_bits turn 8 (s1 ^^^ (zg_i D 19 (zn (nI j))).toInt64))), none, some (.int ((nI j) + 1)), some (.int (nI 8))], [], rf, D) rfl trivial ?_
      rw [nI_1]
      exact ih (j + 1) _ _ (by omega) (by rw [← hf]; unfold zg_i; rw [zn_nI (by omega)]; rfl)
  refine hr.1 4 True _ _ (6, [some (.ref 19), some (.int (nI s)), some (.int (nI (s + c))), some (.long ones), none, some (.long turn), none, some (.long ones), none, some (.int (nI s)), none], [], rf, D) rfl trivial ?_
  exact outer c s ones none rfl rfl
set_option maxRecDepth 100000 in
set_option maxHeartbeats 4000000 in
theorem t_sum4_19 {l : Launch} {E : zx_E} {d : Nat} {rf : List Nat} (s c : Nat) (D : zx_D) (hs : s + c ≤ 640) : zx_MC l E 17 (d + 1) [.ref 19, .int (nI s), .int (nI (s + c))] (rf, D) (fun v S => v = some (.long (zc_sum4 (D.1 19) c s)) ∧ S = (rf, D)) := by
  refine zx_ofC (K := ck_P_sumFour) rfl (by decide +kernel) rfl ok_P_sumFour (Nat.le_of_ble_eq_true rfl) (fun Zp hr => ?_)
  show Zp (0, [some (.ref 19), some (.int (nI s)), some (.int (nI (s + c)))], [], rf, D)
  refine hr.1 5 True _ _ (9, [some (.ref 19), some (.int (nI s)), some (.int (nI (s + c)))], [.long 3988292384, .long 4294967295, .int (nI (s + c)), .int (nI s), .ref 19], rf, D) rfl trivial ?_
  refine hr.2.2.1 _ _ _ _ _ d rfl (by omega) (t_sumBy_19 s c 4294967295 3988292384 D hs) (fun v S hq => ?_)
  obtain ⟨rfl, rfl⟩ := hq
  exact hr.2.2.2 _ _ _ rfl trivial ⟨rfl, rfl⟩
set_option maxRecDepth 100000 in
set_option maxHeartbeats 4000000 in
theorem t_sumBy_22 {l : Launch} {E : zx_E} {d : Nat} {rf : List Nat} (s c : Nat) (ones turn : Int64) (D : zx_D) (hs : s + c ≤ 6) : zx_MC l E 19 d [.ref 22, .int (nI s), .int (nI (s + c)), .long ones, .long turn] (rf, D) (fun v S => v = some (.long (zc_sum turn (D.1 22) c s ones ^^^ ones)) ∧ S = (rf, D)) := by
  refine zx_ofC (K := ck_P_sumBy) rfl (by decide +kernel) rfl ok_P_sumBy (Nat.le_of_ble_eq_true rfl) (fun Zp hr => ?_)
  show Zp (0, [some (.ref 22), some (.int (nI s)), some (.int (nI (s + c))), some (.long ones), none, some (.long turn), none, none, none, none, none], [], rf, D)
  have inner : ∀ (k : Nat) (s1 : Int64) (i9 : Int32), k ≤ 8 → Zp (63, [some (.ref 22), some (.int (nI s)), some (.int (nI (s + c))), some (.long ones), none, some (.long turn), none, some (.long (zc_bits turn k s1)), none, some (.int i9), some (.int (nI 8))], [], rf, D) → Zp (25, [some (.ref 22), some (.int (nI s)), some (.int (nI (s + c))), some (.long ones), none, some (.long turn), none, some (.long s1), none, some (.int i9), some (.int (nI (8 - k)))], [], rf, D) := by
    intro k
    induction k with
    | zero =>
      intro s1 i9 h8 hk
      refine hr.1 2 True _ _ (29, [some (.ref 22), some (.int (nI s)), some (.int (nI (s + c))), some (.long ones), none, some (.long turn), none, some (.long s1), none, some (.int i9), some (.int (nI (8 - 0)))], [.int 8, .int (nI (8 - 0))], rf, D) rfl trivial ?_
      refine hr.2.1 _ (8 ≤ nI (8 - 0)) _ _ rfl (fun _ => ?_) (fun h => absurd (by decide) h)
      exact hk
    | succ k ih =>
      intro s1 i9 h8 hk
      refine hr.1 2 True _ _ (29, [some (.ref 22), some (.int (nI s)), some (.int (nI (s + c))), some (.long ones), none, some (.long turn), none, some (.long s1), none, some (.int i9), some (.int (nI (8 - (k + 1))))], [.int 8, .int (nI (8 - (k + 1)))], rf, D) rfl trivial ?_
      refine hr.2.1 _ (8 ≤ nI (8 - (k + 1))) _ _ rfl (fun h => absurd h (by rw [show (8 : Int32) = nI 8 from rfl, nI_leI (by omega) (by omega)]; omega)) (fun _ => ?_)
      refine hr.1 4 True _ _ (37, [some (.ref 22), some (.int (nI s)), some (.int (nI (s + c))), some (.long ones), none, some (.long turn), none, some (.long s1), none, some (.int i9), some (.int (nI (8 - (k + 1))))], [.long 1, .long (s1 &&& 1)], rf, D) rfl trivial ?_
      refine hr.2.1 _ (¬ s1 &&& 1 = 1) _ _ rfl (fun h37 => ?_) (fun h37 => ?_)
      · skip
        refine hr.1 6 True _ _ (25, [some (.ref 22), some (.int (nI s)), some (.int (nI (s + c))), some (.long ones), none, some (.long turn), none, some (.long (zo_lushr s1 1)), none, some (.int i9), some (.int ((nI (8 - (k + 1))) + 1))], [], rf, D) rfl trivial ?_
        rw [nI_1, show 8 - (k + 1) + 1 = 8 - k by omega]
        exact ih _ _ (by omega) (by rw [zc_bits, zc_bit, if_pos h37] at hk; exact hk)
      · skip
        refine hr.1 9 True _ _ (25, [some (.ref 22), some (.int (nI s)), some (.int (nI (s + c))), some (.long ones), none, some (.long turn), none, some (.long ((zo_lushr s1 1) ^^^ turn)), none, some (.int i9), some (.int ((nI (8 - (k + 1))) + 1))], [], rf, D) rfl trivial ?_
        rw [nI_1, show 8 - (k + 1) + 1 = 8 - k by omega]
        exact ih _ _ (by omega) (by rw [zc_bits, zc_bit, if_neg h37] at hk; exact hk)
  have outer : ∀ (k : Nat) (j : Nat) (s1 : Int64) (o10 : Option Value), j + k = s + c → zc_sum turn (D.1 22) k j s1 = zc_sum turn (D.1 22) c s ones → Zp (6, [some (.ref 22), some (.int (nI s)), some (.int (nI (s + c))), some (.long ones), none, some (.long turn), none, some (.long s1), none, some (.int (nI j)), o10], [], rf, D) := by
    intro k
    induction k with
    | zero =>
      intro j s1 o10 hj hf
      rw [Nat.add_zero] at hj
      refine hr.1 2 True _ _ (9, [some (.ref 22), some (.int (nI s)), some (.int (nI (s + c))), some (.long ones), none, some (.long turn), none, some (.long s1), none, some (.int (nI j)), o10], [.int (nI (s + c)), .int (nI j)], rf, D) rfl trivial ?_
      refine hr.2.1 _ (nI (s + c) ≤ nI j) _ _ rfl (fun _ => ?_) (fun h => absurd (by rw [hj]; exact nI_le (Nat.le_refl _) (by omega)) h)
      refine hr.1 3 True _ _ (73, [some (.ref 22), some (.int (nI s)), some (.int (nI (s + c))), some (.long ones), none, some (.long turn), none, some (.long s1), none, some (.int (nI j)), o10], [.long (s1 ^^^ ones)], rf, D) rfl trivial ?_
      exact hr.2.2.2 _ _ _ rfl trivial ⟨by rw [← hf]; rfl, rfl⟩
    | succ k ih =>
      intro j s1 o10 hj hf
      refine hr.1 2 True _ _ (9, [some (.ref 22), some (.int (nI s)), some (.int (nI (s + c))), some (.long ones), none, some (.long turn), none, some (.long s1), none, some (.int (nI j)), o10], [.int (nI (s + c)), .int (nI j)], rf, D) rfl trivial ?_
      refine hr.2.1 _ (nI (s + c) ≤ nI j) _ _ rfl (fun h => absurd h (by rw [nI_leI (by omega) (by omega)]; omega)) (fun _ => ?_)
      refine hr.1 9 True _ _ (25, [some (.ref 22), some (.int (nI s)), some (.int (nI (s + c))), some (.long ones), none, some (.long turn), none, some (.long (s1 ^^^ (((zg_i D 22 (zn (nI j)))).toInt64))), none, some (.int (nI j)), some (.int 0)], [], rf, D) rfl ⟨trivial, (pk_in j 6 (by omega))⟩ ?_
      refine inner 8 _ _ (by omega) ?_
      refine hr.1 2 True _ _ (6, [some (.ref 22), some (.int (nI s)), some (.int (nI (s + c))), some (.long ones), none, some (.long turn), none, some (.long (zc_bits turn 8 (s1 ^^^ (zg_i D 22 (zn (nI j))).toInt64))), none, some (.int ((nI j) + 1)), some (.int (nI 8))], [], rf, D) rfl trivial ?_
      rw [nI_1]
      exact ih (j + 1) _ _ (by omega) (by rw [← hf]; unfold zg_i; rw [zn_nI (by omega)]; rfl)
  refine hr.1 4 True _ _ (6, [some (.ref 22), some (.int (nI s)), some (.int (nI (s + c))), some (.long ones), none, some (.long turn), none, some (.long ones), none, some (.int (nI s)), none], [], rf, D) rfl trivial ?_
  exact outer c s ones none rfl rfl
set_option maxRecDepth 100000 in
set_option maxHeartbeats 4000000 in
theorem t_sum4_22 {l : Launch} {E : zx_E} {d : Nat} {rf : List Nat} (s c : Nat) (D : zx_D) (hs : s + c ≤ 6) : zx_MC l E 17 (d + 1) [.ref 22, .int (nI s), .int (nI (s + c))] (rf, D) (fun v S => v = some (.long (zc_sum4 (D.1 22) c s)) ∧ S = (rf, D)) := by
  refine zx_ofC (K := ck_P_sumFour) rfl (by decide +kernel) rfl ok_P_sumFour (Nat.le_of_ble_eq_true rfl) (fun Zp hr => ?_)
  show Zp (0, [some (.ref 22), some (.int (nI s)), some (.int (nI (s + c)))], [], rf, D)
  refine hr.1 5 True _ _ (9, [some (.ref 22), some (.int (nI s)), some (.int (nI (s + c)))], [.long 3988292384, .long 4294967295, .int (nI (s + c)), .int (nI s), .ref 22], rf, D) rfl trivial ?_
  refine hr.2.2.1 _ _ _ _ _ d rfl (by omega) (t_sumBy_22 s c 4294967295 3988292384 D hs) (fun v S hq => ?_)
  obtain ⟨rfl, rfl⟩ := hq
  exact hr.2.2.2 _ _ _ rfl trivial ⟨rfl, rfl⟩
