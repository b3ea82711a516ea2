/-! The reference: sums and writing -/
def zr_bit (x : Int64) : Int64 := if ¬ x &&& 1 = 1 then zo_lshr x 1 else zo_lshr x 1 ^^^ 3988292384
def zr_bits : Nat → Int64 → Int64
  | 0, x => x
  | k + 1, x => zr_bits k (zr_bit x)
def fv_rfour (x : Int64) (b : Int32) (D : zx_D) : Int64 := zr_bits 8 (x ^^^ b.toInt64)
set_option maxRecDepth 100000 in
set_option maxHeartbeats 4000000 in
theorem t_rfour {l : Launch} {E : zx_E} {d : Nat} (x : Int64) (b : Int32) (D : zx_D) : zx_MR l E 107 d [.long x, .int b] ([], D) (fun v S => v = some (.long (fv_rfour x b D)) ∧ S = ([], D)) := by
  refine zx_ofR (K := ck_R_four) rfl (by decide +kernel) rfl ok_R_four (Nat.le_of_ble_eq_true rfl) (fun Zp hr => ?_)
  show Zp (0, [some (.long x), none, some (.int b), none, none, none], [], [], D)
  have loop : ∀ (k : Nat) (s1 : Int64), k ≤ 8 → zr_bits k s1 = zr_bits 8 (x ^^^ b.toInt64) → Zp (8, [some (.long x), none, some (.int b), some (.long s1), none, some (.int (nI (8 - k)))], [], [], D) := by
    intro k
    induction k with
    | zero =>
      intro s1 h8 hf
      refine hr.1 2 True _ _ (12, [some (.long x), none, some (.int b), some (.long s1), none, some (.int (nI (8 - 0)))], [.int 8, .int (nI (8 - 0))], [], D) rfl trivial ?_
      refine hr.2.1 _ (8 ≤ nI (8 - 0)) _ _ rfl (fun _ => ?_) (fun h => absurd (by decide) h)
      refine hr.1 1 True _ _ (44, [some (.long x), none, some (.int b), some (.long s1), none, some (.int (nI (8 - 0)))], [.long s1], [], D) rfl trivial ?_
      exact hr.2.2.2 _ _ _ rfl trivial ⟨by unfold fv_rfour; rw [← hf]; rfl, rfl⟩
    | succ k ih =>
      intro s1 h8 hf
      refine hr.1 2 True _ _ (12, [some (.long x), none, some (.int b), some (.long s1), none, some (.int (nI (8 - (k + 1))))], [.int 8, .int (nI (8 - (k + 1)))], [], D) rfl trivial ?_
      refine hr.2.1 _ (8 ≤ nI (8 - (k + 1))) _ _ rfl (fun h => absurd h (by rw [show (8 : Int32) = nI 8 from rfl, nI_leI (by omega) (by omega)]; omega)) (fun _ => ?_)
      refine hr.1 4 True _ _ (19, [some (.long x), none, some (.int b), some (.long s1), none, some (.int (nI (8 - (k + 1))))], [.long 1, .long (s1 &&& 1)], [], D) rfl trivial ?_
      refine hr.2.1 _ (¬ s1 &&& 1 = 1) _ _ rfl (fun h19 => ?_) (fun h19 => ?_)
      · skip
        refine hr.1 6 True _ _ (8, [some (.long x), none, some (.int b), some (.long (zo_lshr s1 1)), none, some (.int ((nI (8 - (k + 1))) + 1))], [], [], D) rfl trivial ?_
        rw [nI_1, show 8 - (k + 1) + 1 = 8 - k by omega]
        exact ih _ (by omega) (by rw [zr_bits, zr_bit, if_pos h19] at hf; exact hf)
      · skip
        refine hr.1 9 True _ _ (8, [some (.long x), none, some (.int b), some (.long ((zo_lshr s1 1) ^^^ 3988292384)), none, some (.int ((nI (8 - (k + 1))) + 1))], [], [], D) rfl trivial ?_
        rw [nI_1, show 8 - (k + 1) + 1 = 8 - k by omega]
        exact ih _ (by omega) (by rw [zr_bits, zr_bit, if_neg h19] at hf; exact hf)
  refine hr.1 7 True _ _ (8, [some (.long x), none, some (.int b), some (.long (x ^^^ ((b).toInt64))), none, some (.int 0)], [], [], D) rfl trivial ?_
  exact loop 8 _ (by omega) rfl
def fv_reight (x : Int64) (b : Int32) (D : zx_D) : Int64 := zc_bits (-3932672073523589310) 8 (x ^^^ b.toInt64)
set_option maxRecDepth 100000 in
set_option maxHeartbeats 4000000 in
theorem t_reight {l : Launch} {E : zx_E} {d : Nat} (x : Int64) (b : Int32) (D : zx_D) : zx_MR l E 108 d [.long x, .int b] ([], D) (fun v S => v = some (.long (fv_reight x b D)) ∧ S = ([], D)) := by
  refine zx_ofR (K := ck_R_eight) rfl (by decide +kernel) rfl ok_R_eight (Nat.le_of_ble_eq_true rfl) (fun Zp hr => ?_)
  show Zp (0, [some (.long x), none, some (.int b), none, none, none], [], [], D)
  have loop : ∀ (k : Nat) (s1 : Int64), k ≤ 8 → zc_bits (-3932672073523589310) k s1 = zc_bits (-3932672073523589310) 8 (x ^^^ b.toInt64) → Zp (8, [some (.long x), none, some (.int b), some (.long s1), none, some (.int (nI (8 - k)))], [], [], D) := by
    intro k
    induction k with
    | zero =>
      intro s1 h8 hf
      refine hr.1 2 True _ _ (12, [some (.long x), none, some (.int b), some (.long s1), none, some (.int (nI (8 - 0)))], [.int 8, .int (nI (8 - 0))], [], D) rfl trivial ?_
      refine hr.2.1 _ (8 ≤ nI (8 - 0)) _ _ rfl (fun _ => ?_) (fun h => absurd (by decide) h)
      refine hr.1 1 True _ _ (44, [some (.long x), none, some (.int b), some (.long s1), none, some (.int (nI (8 - 0)))], [.long s1], [], D) rfl trivial ?_
      exact hr.2.2.2 _ _ _ rfl trivial ⟨by unfold fv_reight; rw [← hf]; rfl, rfl⟩
    | succ k ih =>
      intro s1 h8 hf
      refine hr.1 2 True _ _ (12, [some (.long x), none, some (.int b), some (.long s1), none, some (.int (nI (8 - (k + 1))))], [.int 8, .int (nI (8 - (k + 1)))], [], D) rfl trivial ?_
      refine hr.2.1 _ (8 ≤ nI (8 - (k + 1))) _ _ rfl (fun h => absurd h (by rw [show (8 : Int32) = nI 8 from rfl, nI_leI (by omega) (by omega)]; omega)) (fun _ => ?_)
      refine hr.1 4 True _ _ (19, [some (.long x), none, some (.int b), some (.long s1), none, some (.int (nI (8 - (k + 1))))], [.long 1, .long (s1 &&& 1)], [], D) rfl trivial ?_
      refine hr.2.1 _ (¬ s1 &&& 1 = 1) _ _ rfl (fun h19 => ?_) (fun h19 => ?_)
      · skip
        refine hr.1 6 True _ _ (8, [some (.long x), none, some (.int b), some (.long (zo_lushr s1 1)), none, some (.int ((nI (8 - (k + 1))) + 1))], [], [], D) rfl trivial ?_
        rw [nI_1, show 8 - (k + 1) + 1 = 8 - k by omega]
        exact ih _ (by omega) (by rw [zc_bits, zc_bit, if_pos h19] at hf; exact hf)
      · skip
        refine hr.1 9 True _ _ (8, [some (.long x), none, some (.int b), some (.long ((zo_lushr s1 1) ^^^ (-3932672073523589310))), none, some (.int ((nI (8 - (k + 1))) + 1))], [], [], D) rfl trivial ?_
        rw [nI_1, show 8 - (k + 1) + 1 = 8 - k by omega]
        exact ih _ (by omega) (by rw [zc_bits, zc_bit, if_neg h19] at hf; exact hf)
  refine hr.1 7 True _ _ (8, [some (.long x), none, some (.int b), some (.long (x ^^^ ((b).toInt64))), none, some (.int 0)], [], [], D) rfl trivial ?_
  exact loop 8 _ (by omega) rfl
def zr_sum (f : Nat → Int32) : Nat → Nat → Int64 → Int64
  | 0, _, s => s
  | k + 1, j, s => zr_sum f k (j + 1) (zr_bits 8 (s ^^^ (f j).toInt64))
set_option maxRecDepth 100000 in
set_option maxHeartbeats 4000000 in
theorem t_rfop {l : Launch} {E : zx_E} {d : Nat} (s c : Nat) (D : zx_D) (hs : s + c ≤ 640) : zx_MR l E 109 (d + 1) [.ref 0, .int (nI s), .int (nI (s + c))] ([], D) (fun v S => v = some (.long (zr_sum (D.1 2) c s 4294967295 ^^^ 4294967295)) ∧ S = ([], D)) := by
  refine zx_ofR (K := ck_R_fourOfPacked) rfl (by decide +kernel) rfl ok_R_fourOfPacked (Nat.le_of_ble_eq_true rfl) (fun Zp hr => ?_)
  show Zp (0, [some (.ref 0), some (.int (nI s)), some (.int (nI (s + c))), none, none, none], [], [], D)
  have loop : ∀ (k : Nat) (j : Nat) (s1 : Int64), j + k = s + c → zr_sum (D.1 2) k j s1 = zr_sum (D.1 2) c s 4294967295 → Zp (7, [some (.ref 0), some (.int (nI s)), some (.int (nI (s + c))), some (.long s1), none, some (.int (nI j))], [], [], D) := by
    intro k
    induction k with
    | zero =>
      intro j s1 hj hf
      rw [Nat.add_zero] at hj
      refine hr.1 2 True _ _ (10, [some (.ref 0), some (.int (nI s)), some (.int (nI (s + c))), some (.long s1), none, some (.int (nI j))], [.int (nI (s + c)), .int (nI j)], [], D) rfl trivial ?_
      refine hr.2.1 _ (nI (s + c) ≤ nI j) _ _ rfl (fun _ => ?_) (fun h => absurd (by rw [hj]; exact nI_le (Nat.le_refl _) (by omega)) h)
      refine hr.1 3 True _ _ (36, [some (.ref 0), some (.int (nI s)), some (.int (nI (s + c))), some (.long s1), none, some (.int (nI j))], [.long (s1 ^^^ 4294967295)], [], D) rfl trivial ?_
      exact hr.2.2.2 _ _ _ rfl trivial ⟨by rw [← hf]; rfl, rfl⟩
    | succ k ih =>
      intro j s1 hj hf
      refine hr.1 2 True _ _ (10, [some (.ref 0), some (.int (nI s)), some (.int (nI (s + c))), some (.long s1), none, some (.int (nI j))], [.int (nI (s + c)), .int (nI j)], [], D) rfl trivial ?_
      refine hr.2.1 _ (nI (s + c) ≤ nI j) _ _ rfl (fun h => absurd h (by rw [nI_leI (by omega) (by omega)]; omega)) (fun _ => ?_)
      refine hr.1 5 True _ _ (21, [some (.ref 0), some (.int (nI s)), some (.int (nI (s + c))), some (.long s1), none, some (.int (nI j))], [.int (zg_i D 2 (zn (nI j))), .long s1], [], D) rfl ⟨trivial, (pk_in j 640 (by omega))⟩ ?_
      refine hr.2.2.1 _ _ _ _ _ d rfl (by omega) (t_rfour s1 (zg_i D 2 (zn (nI j))) D) (fun v S hq => ?_)
      obtain ⟨rfl, rfl⟩ := hq
      refine hr.1 3 True _ _ (7, [some (.ref 0), some (.int (nI s)), some (.int (nI (s + c))), some (.long (fv_rfour s1 (zg_i D 2 (zn (nI j))) D)), none, some (.int ((nI j) + 1))], [], [], D) rfl trivial ?_
      rw [nI_1]
      exact ih (j + 1) _ (by omega) (by rw [← hf]; unfold fv_rfour zg_i; rw [zn_nI (by omega)]; rfl)
  refine hr.1 4 True _ _ (7, [some (.ref 0), some (.int (nI s)), some (.int (nI (s + c))), some (.long 4294967295), none, some (.int (nI s))], [], [], D) rfl trivial ?_
  exact loop c s _ rfl rfl
set_option maxRecDepth 100000 in
set_option maxHeartbeats 4000000 in
theorem t_rfom {l : Launch} {E : zx_E} {d : Nat} (s : Nat) (D : zx_D) {m : Nat} (hm : zg_i D 0 5 = nI m) (hs : s ≤ m) (hn : m ≤ 400) : zx_MR l E 110 (d + 1) [.ref 0, .int (nI s)] ([], D) (fun v S => v = some (.long (zr_sum (D.1 3) (m - s) s 4294967295 ^^^ 4294967295)) ∧ S = ([], D)) := by
  refine zx_ofR (K := ck_R_fourOfMade) rfl (by decide +kernel) rfl ok_R_fourOfMade (Nat.le_of_ble_eq_true rfl) (fun Zp hr => ?_)
  show Zp (0, [some (.ref 0), some (.int (nI s)), none, none, none], [], [], D)
  have loop : ∀ (k : Nat) (j : Nat) (s1 : Int64), j + k = m → zr_sum (D.1 3) k j s1 = zr_sum (D.1 3) (m - s) s 4294967295 → Zp (7, [some (.ref 0), some (.int (nI s)), some (.long s1), none, some (.int (nI j))], [], [], D) := by
    intro k
    induction k with
    | zero =>
      intro j s1 hj hf
      refine hr.1 3 True _ _ (13, [some (.ref 0), some (.int (nI s)), some (.long s1), none, some (.int (nI j))], [.int (zg_i D 0 5), .int (nI j)], [], D) rfl trivial ?_
      refine hr.2.1 _ (zg_i D 0 5 ≤ nI j) _ _ rfl (fun _ => ?_) (fun h => absurd (by rw [hm, show j = m by omega]; exact nI_le (Nat.le_refl _) (by omega)) h)
      refine hr.1 3 True _ _ (39, [some (.ref 0), some (.int (nI s)), some (.long s1), none, some (.int (nI j))], [.long (s1 ^^^ 4294967295)], [], D) rfl trivial ?_
      exact hr.2.2.2 _ _ _ rfl trivial ⟨by rw [← hf]; rfl, rfl⟩
    | succ k ih =>
      intro j s1 hj hf
      refine hr.1 3 True _ _ (13, [some (.ref 0), some (.int (nI s)), some (.long s1), none, some (.int (nI j))], [.int (zg_i D 0 5), .int (nI j)], [], D) rfl trivial ?_
      refine hr.2.1 _ (zg_i D 0 5 ≤ nI j) _ _ rfl (fun h => absurd h (by rw [hm, nI_leI (by omega) (by omega)]; omega)) (fun _ => ?_)
      refine hr.1 5 True _ _ (24, [some (.ref 0), some (.int (nI s)), some (.long s1), none, some (.int (nI j))], [.int (zg_i D 3 (zn (nI j))), .long s1], [], D) rfl ⟨trivial, (pk_in j 400 (by omega))⟩ ?_
      refine hr.2.2.1 _ _ _ _ _ d rfl (by omega) (t_rfour s1 (zg_i D 3 (zn (nI j))) D) (fun v S hq => ?_)
      obtain ⟨rfl, rfl⟩ := hq
      refine hr.1 3 True _ _ (7, [some (.ref 0), some (.int (nI s)), some (.long (fv_rfour s1 (zg_i D 3 (zn (nI j))) D)), none, some (.int ((nI j) + 1))], [], [], D) rfl trivial ?_
      rw [nI_1]
      exact ih (j + 1) _ (by omega) (by rw [← hf]; unfold fv_rfour zg_i; rw [zn_nI (by omega)]; rfl)
  refine hr.1 4 True _ _ (7, [some (.ref 0), some (.int (nI s)), some (.long 4294967295), none, some (.int (nI s))], [], [], D) rfl trivial ?_
  exact loop (m - s) s _ (by omega) rfl
set_option maxRecDepth 100000 in
set_option maxHeartbeats 4000000 in
theorem t_reom {l : Launch} {E : zx_E} {d : Nat} (s : Nat) (D : zx_D) {m : Nat} (hm : zg_i D 0 5 = nI m) (hs : s ≤ m) (hn : m ≤ 400) : zx_MR l E 111 (d + 1) [.ref 0, .int (nI s)] ([], D) (fun v S => v = some (.long (zc_sum (-3932672073523589310) (D.1 3) (m - s) s (-1) ^^^ (-1))) ∧ S = ([], D)) := by
  refine zx_ofR (K := ck_R_eightOfMade) rfl (by decide +kernel) rfl ok_R_eightOfMade (Nat.le_of_ble_eq_true rfl) (fun Zp hr => ?_)
  show Zp (0, [some (.ref 0), some (.int (nI s)), none, none, none], [], [], D)
  have loop : ∀ (k : Nat) (j : Nat) (s1 : Int64), j + k = m → zc_sum (-3932672073523589310) (D.1 3) k j s1 = zc_sum (-3932672073523589310) (D.1 3) (m - s) s (-1) → Zp (7, [some (.ref 0), some (.int (nI s)), some (.long s1), none, some (.int (nI j))], [], [], D) := by
    intro k
    induction k with
    | zero =>
      intro j s1 hj hf
      refine hr.1 3 True _ _ (13, [some (.ref 0), some (.int (nI s)), some (.long s1), none, some (.int (nI j))], [.int (zg_i D 0 5), .int (nI j)], [], D) rfl trivial ?_
      refine hr.2.1 _ (zg_i D 0 5 ≤ nI j) _ _ rfl (fun _ => ?_) (fun h => absurd (by rw [hm, show j = m by omega]; exact nI_le (Nat.le_refl _) (by omega)) h)
      refine hr.1 3 True _ _ (39, [some (.ref 0), some (.int (nI s)), some (.long s1), none, some (.int (nI j))], [.long (s1 ^^^ (-1))], [], D) rfl trivial ?_
      exact hr.2.2.2 _ _ _ rfl trivial ⟨by rw [← hf]; rfl, rfl⟩
    | succ k ih =>
      intro j s1 hj hf
      refine hr.1 3 True _ _ (13, [some (.ref 0), some (.int (nI s)), some (.long s1), none, some (.int (nI j))], [.int (zg_i D 0 5), .int (nI j)], [], D) rfl trivial ?_
      refine hr.2.1 _ (zg_i D 0 5 ≤ nI j) _ _ rfl (fun h => absurd h (by rw [hm, nI_leI (by omega) (by omega)]; omega)) (fun _ => ?_)
      refine hr.1 5 True _ _ (24, [some (.ref 0), some (.int (nI s)), some (.long s1), none, some (.int (nI j))], [.int (zg_i D 3 (zn (nI j))), .long s1], [], D) rfl ⟨trivial, (pk_in j 400 (by omega))⟩ ?_
      refine hr.2.2.1 _ _ _ _ _ d rfl (by omega) (t_reight s1 (zg_i D 3 (zn (nI j))) D) (fun v S hq => ?_)
      obtain ⟨rfl, rfl⟩ := hq
      refine hr.1 3 True _ _ (7, [some (.ref 0), some (.int (nI s)), some (.long (fv_reight s1 (zg_i D 3 (zn (nI j))) D)), none, some (.int ((nI j) + 1))], [], [], D) rfl trivial ?_
      rw [nI_1]
      exact ih (j + 1) _ (by omega) (by rw [← hf]; unfold fv_reight zg_i; rw [zn_nI (by omega)]; rfl)
  refine hr.1 4 True _ _ (7, [some (.ref 0), some (.int (nI s)), some (.long (-1)), none, some (.int (nI s))], [], [], D) rfl trivial ?_
  exact loop (m - s) s _ (by omega) rfl
set_option maxRecDepth 100000 in
set_option maxHeartbeats 4000000 in
theorem t_rsum0 {l : Launch} {E : zx_E} {d : Nat} (D : zx_D) {m : Nat} (hm : zg_i D 0 1 = nI m) (hn : m ≤ 400) : zx_MR l E 112 (d + 1) [.ref 0, .int 0] ([], D) (fun v S => v = some (.long (zr_sum (D.1 1) m 0 4294967295 ^^^ 4294967295)) ∧ S = ([], D)) := by
  refine zx_ofR (K := ck_R_sum) rfl (by decide +kernel) rfl ok_R_sum (Nat.le_of_ble_eq_true rfl) (fun Zp hr => ?_)
  show Zp (0, [some (.ref 0), some (.int 0), none, none, none], [], [], D)
  have loop : ∀ (k : Nat) (j : Nat) (s1 : Int64), j + k = m → zr_sum (D.1 1) k j s1 = zr_sum (D.1 1) m 0 4294967295 → Zp (17, [some (.ref 0), some (.int 0), some (.long s1), none, some (.int (nI j))], [], [], D) := by
    intro k
    induction k with
    | zero =>
      intro j s1 hj hf
      refine hr.1 3 True _ _ (23, [some (.ref 0), some (.int 0), some (.long s1), none, some (.int (nI j))], [.int (zg_i D 0 1), .int (nI j)], [], D) rfl trivial ?_
      refine hr.2.1 _ (zg_i D 0 1 ≤ nI j) _ _ rfl (fun _ => ?_) (fun h => absurd (by rw [hm, show j = m by omega]; exact nI_le (Nat.le_refl _) (by omega)) h)
      refine hr.1 1 True _ _ (63, [some (.ref 0), some (.int 0), some (.long s1), none, some (.int (nI j))], [.int 0], [], D) rfl trivial ?_
      refine hr.2.1 _ ((0 : Int32) = 0) _ _ rfl (fun _ => ?_) (fun h => absurd (by decide) h)
      refine hr.1 3 True _ _ (79, [some (.ref 0), some (.int 0), some (.long s1), none, some (.int (nI j))], [.long (s1 ^^^ 4294967295)], [], D) rfl trivial ?_
      exact hr.2.2.2 _ _ _ rfl trivial ⟨by rw [← hf]; rfl, rfl⟩
    | succ k ih =>
      intro j s1 hj hf
      refine hr.1 3 True _ _ (23, [some (.ref 0), some (.int 0), some (.long s1), none, some (.int (nI j))], [.int (zg_i D 0 1), .int (nI j)], [], D) rfl trivial ?_
      refine hr.2.1 _ (zg_i D 0 1 ≤ nI j) _ _ rfl (fun h => absurd h (by rw [hm, nI_leI (by omega) (by omega)]; omega)) (fun _ => ?_)
      refine hr.1 1 True _ _ (27, [some (.ref 0), some (.int 0), some (.long s1), none, some (.int (nI j))], [.int 0], [], D) rfl trivial ?_
      refine hr.2.1 _ ((0 : Int32) = 0) _ _ rfl (fun _ => ?_) (fun h => absurd (by decide) h)
      refine hr.1 5 True _ _ (52, [some (.ref 0), some (.int 0), some (.long s1), none, some (.int (nI j))], [.int (zg_i D 1 (zn (nI j))), .long s1], [], D) rfl ⟨trivial, (pk_in j 400 (by omega))⟩ ?_
      refine hr.2.2.1 _ _ _ _ _ d rfl (by omega) (t_rfour s1 (zg_i D 1 (zn (nI j))) D) (fun v S hq => ?_)
      obtain ⟨rfl, rfl⟩ := hq
      refine hr.1 3 True _ _ (17, [some (.ref 0), some (.int 0), some (.long (fv_rfour s1 (zg_i D 1 (zn (nI j))) D)), none, some (.int ((nI j) + 1))], [], [], D) rfl trivial ?_
      rw [nI_1]
      exact ih (j + 1) _ (by omega) (by rw [← hf]; unfold fv_rfour zg_i; rw [zn_nI (by omega)]; rfl)
  refine hr.1 1 True _ _ (1, [some (.ref 0), some (.int 0), none, none, none], [.int 0], [], D) rfl trivial ?_
  refine hr.2.1 _ ((0 : Int32) = 0) _ _ rfl (fun _ => ?_) (fun h => absurd (by decide) h)
  refine hr.1 4 True _ _ (17, [some (.ref 0), some (.int 0), some (.long 4294967295), none, some (.int 0)], [], [], D) rfl trivial ?_
  exact loop m 0 _ (by omega) rfl
set_option maxRecDepth 100000 in
set_option maxHeartbeats 4000000 in
theorem t_rsum1 {l : Launch} {E : zx_E} {d : Nat} (D : zx_D) {m : Nat} (hm : zg_i D 0 1 = nI m) (hn : m ≤ 400) : zx_MR l E 112 (d + 1) [.ref 0, .int 1] ([], D) (fun v S => v = some (.long (zc_sum (-3932672073523589310) (D.1 1) m 0 (-1) ^^^ (-1))) ∧ S = ([], D)) := by
  refine zx_ofR (K := ck_R_sum) rfl (by decide +kernel) rfl ok_R_sum (Nat.le_of_ble_eq_true rfl) (fun Zp hr => ?_)
  show Zp (0, [some (.ref 0), some (.int 1), none, none, none], [], [], D)
  have loop : ∀ (k : Nat) (j : Nat) (s1 : Int64), j + k = m → zc_sum (-3932672073523589310) (D.1 1) k j s1 = zc_sum (-3932672073523589310) (D.1 1) m 0 (-1) → Zp (17, [some (.ref 0), some (.int 1), some (.long s1), none, some (.int (nI j))], [], [], D) := by
    intro k
    induction k with
    | zero =>
      intro j s1 hj hf
      refine hr.1 3 True _ _ (23, [some (.ref 0), some (.int 1), some (.long s1), none, some (.int (nI j))], [.int (zg_i D 0 1), .int (nI j)], [], D) rfl trivial ?_
      refine hr.2.1 _ (zg_i D 0 1 ≤ nI j) _ _ rfl (fun _ => ?_) (fun h => absurd (by rw [hm, show j = m by omega]; exact nI_le (Nat.le_refl _) (by omega)) h)
      refine hr.1 1 True _ _ (63, [some (.ref 0), some (.int 1), some (.long s1), none, some (.int (nI j))], [.int 1], [], D) rfl trivial ?_
      refine hr.2.1 _ ((1 : Int32) = 0) _ _ rfl (fun h => absurd h (by decide)) (fun _ => ?_)
      refine hr.1 4 True _ _ (79, [some (.ref 0), some (.int 1), some (.long s1), none, some (.int (nI j))], [.long (s1 ^^^ (-1))], [], D) rfl trivial ?_
      exact hr.2.2.2 _ _ _ rfl trivial ⟨by rw [← hf]; rfl, rfl⟩
    | succ k ih =>
      intro j s1 hj hf
      refine hr.1 3 True _ _ (23, [some (.ref 0), some (.int 1), some (.long s1), none, some (.int (nI j))], [.int (zg_i D 0 1), .int (nI j)], [], D) rfl trivial ?_
      refine hr.2.1 _ (zg_i D 0 1 ≤ nI j) _ _ rfl (fun h => absurd h (by rw [hm, nI_leI (by omega) (by omega)]; omega)) (fun _ => ?_)
      refine hr.1 1 True _ _ (27, [some (.ref 0), some (.int 1), some (.long s1), none, some (.int (nI j))], [.int 1], [], D) rfl trivial ?_
      refine hr.2.1 _ ((1 : Int32) = 0) _ _ rfl (fun h => absurd h (by decide)) (fun _ => ?_)
      refine hr.1 5 True _ _ (38, [some (.ref 0), some (.int 1), some (.long s1), none, some (.int (nI j))], [.int (zg_i D 1 (zn (nI j))), .long s1], [], D) rfl ⟨trivial, (pk_in j 400 (by omega))⟩ ?_
      refine hr.2.2.1 _ _ _ _ _ d rfl (by omega) (t_reight s1 (zg_i D 1 (zn (nI j))) D) (fun v S hq => ?_)
      obtain ⟨rfl, rfl⟩ := hq
      refine hr.1 4 True _ _ (17, [some (.ref 0), some (.int 1), some (.long (fv_reight s1 (zg_i D 1 (zn (nI j))) D)), none, some (.int ((nI j) + 1))], [], [], D) rfl trivial ?_
      rw [nI_1]
      exact ih (j + 1) _ (by omega) (by rw [← hf]; unfold fv_reight zg_i; rw [zn_nI (by omega)]; rfl)
  refine hr.1 1 True _ _ (1, [some (.ref 0), some (.int 1), none, none, none], [.int 1], [], D) rfl trivial ?_
  refine hr.2.1 _ ((1 : Int32) = 0) _ _ rfl (fun h => absurd h (by decide)) (fun _ => ?_)
  refine hr.1 5 True _ _ (17, [some (.ref 0), some (.int 1), some (.long (-1)), none, some (.int 0)], [], [], D) rfl trivial ?_
  exact loop m 0 _ (by omega) rfl
def zb_r (x : Int64) (j : Nat) : Int32 := (zo_lshr x (8 * nI j) &&& 255).toInt32
def fw_all (g : Nat → Int32) : Nat → Nat → zx_D → zx_D
  | 0, _, D => D
  | k + 1, j, D => fw_all g k (j + 1) (fs_rwrite (g j) D)
theorem fw_n {b : Int32} {D : zx_D} {m : Nat} (h : zg_i D 0 7 = nI m) : zg_i (fs_rwrite b D) 0 7 = nI (m + 1) := by
  unfold fs_rwrite
  split
  · rw [zg_pi, if_pos ⟨rfl, rfl⟩, h, nI_1]
  · rw [zg_pi, if_pos ⟨rfl, rfl⟩, h, nI_1]
theorem fw_all_n {g : Nat → Int32} : ∀ {k j m : Nat} {D : zx_D}, zg_i D 0 7 = nI m → zg_i (fw_all g k j D) 0 7 = nI (m + k)
  | 0, _, _, _, h => h
  | k + 1, j, m, D, h => by
    have := fw_all_n (g := g) (k := k) (j := j + 1) (fw_n (b := g j) h)
    rw [show m + (k + 1) = m + 1 + k by omega]
    exact this
theorem nI_ge0 {D : zx_D} {m : Nat} (h : zg_i D 0 7 = nI m) (hm : m < 2 ^ 31) : 0 ≤ zg_i D 0 7 := by rw [h]; exact nI_pos' hm
set_option maxRecDepth 100000 in
set_option maxHeartbeats 4000000 in
theorem t_rwnum {l : Launch} {E : zx_E} {d : Nat} (x : Int64) (c : Nat) (D : zx_D) {m : Nat} (hm : zg_i D 0 7 = nI m) (hb : m + c < 2 ^ 20) : zx_MR l E 172 (d + 1) [.ref 0, .long x, .int (nI c)] ([], D) (fun v S => v = none ∧ S = ([], fw_all (zb_r x) c 0 D)) := by
  refine zx_ofR (K := ck_R_writeNumber) rfl (by decide +kernel) rfl ok_R_writeNumber (Nat.le_of_ble_eq_true rfl) (fun Zp hr => ?_)
  show Zp (0, [some (.ref 0), some (.long x), none, some (.int (nI c)), none], [], [], D)
  have loop : ∀ (k : Nat) (j m : Nat) (D1 : zx_D), j + k = c → zg_i D1 0 7 = nI m → m + k < 2 ^ 20 → fw_all (zb_r x) k j D1 = fw_all (zb_r x) c 0 D → Zp (3, [some (.ref 0), some (.long x), none, some (.int (nI c)), some (.int (nI j))], [], [], D1) := by
    intro k
    induction k with
    | zero =>
      intro j m D1 hj hm hb hf
      refine hr.1 2 True _ _ (6, [some (.ref 0), some (.long x), none, some (.int (nI c)), some (.int (nI j))], [.int (nI c), .int (nI j)], [], D1) rfl trivial ?_
      refine hr.2.1 _ (nI c ≤ nI j) _ _ rfl (fun _ => ?_) (fun h => absurd (by rw [show j = c by omega]; exact nI_le (Nat.le_refl _) (by omega)) h)
      exact hr.2.2.2 _ _ _ rfl trivial ⟨rfl, by rw [← hf]; rfl⟩
    | succ k ih =>
      intro j m D1 hj hm hb hf
      refine hr.1 2 True _ _ (6, [some (.ref 0), some (.long x), none, some (.int (nI c)), some (.int (nI j))], [.int (nI c), .int (nI j)], [], D1) rfl trivial ?_
      refine hr.2.1 _ (nI c ≤ nI j) _ _ rfl (fun h => absurd h (by rw [nI_leI (by omega) (by omega)]; omega)) (fun _ => ?_)
      refine hr.1 9 True _ _ (22, [some (.ref 0), some (.long x), none, some (.int (nI c)), some (.int (nI j))], [.int ((((zo_lshr x (8 * (nI j))) &&& 255)).toInt32), .ref 0], [], D1) rfl trivial ?_
      refine hr.2.2.1 _ _ _ _ _ d rfl (by omega) (t_rwrite (zb_r x j) D1 (nI_ge0 hm (by omega))) (fun v S hq => ?_)
      obtain ⟨rfl, rfl⟩ := hq
      refine hr.1 2 True _ _ (3, [some (.ref 0), some (.long x), none, some (.int (nI c)), some (.int ((nI j) + 1))], [], [], fs_rwrite (zb_r x j) D1) rfl trivial ?_
      rw [nI_1]
      exact ih (j + 1) (m + 1) _ (by omega) (fw_n hm) (by omega) hf
  refine hr.1 2 True _ _ (3, [some (.ref 0), some (.long x), none, some (.int (nI c)), some (.int 0)], [], [], D) rfl trivial ?_
  exact loop c 0 m D (by omega) hm hb rfl
set_option maxRecDepth 100000 in
set_option maxHeartbeats 4000000 in
theorem t_rwsum {l : Launch} {E : zx_E} {d : Nat} (s : Nat) (D : zx_D) {m : Nat} (hm : zg_i D 0 7 = nI m) (hs : s ≤ m) (hs2 : s ≤ 640) (hb : m + 4 < 2 ^ 20) : zx_MR l E 173 (d + 2) [.ref 0, .int (nI s)] ([], D) (fun v S => v = none ∧ S = ([], fw_all (zb_r (zr_sum (D.1 4) (min m 640 - s) s 4294967295 ^^^ 4294967295)) 4 0 D)) := by
  refine zx_ofR (K := ck_R_writeSum) rfl (by decide +kernel) rfl ok_R_writeSum (Nat.le_of_ble_eq_true rfl) (fun Zp hr => ?_)
  show Zp (0, [some (.ref 0), some (.int (nI s)), none, none, none], [], [], D)
  have loop : ∀ (k : Nat) (j : Nat) (s1 : Int64), j + k = min m 640 → zr_sum (D.1 4) k j s1 = zr_sum (D.1 4) (min m 640 - s) s 4294967295 → Zp (7, [some (.ref 0), some (.int (nI s)), some (.long s1), none, some (.int (nI j))], [], [], D) := by
    intro k
    induction k with
    | zero =>
      intro j s1 hj hf
      have hf : s1 = zr_sum (D.1 4) (min m 640 - s) s 4294967295 := hf
      refine hr.1 3 True _ _ (13, [some (.ref 0), some (.int (nI s)), some (.long s1), none, some (.int (nI j))], [.int (zg_i D 0 7), .int (nI j)], [], D) rfl trivial ?_
      refine hr.2.1 _ (zg_i D 0 7 ≤ nI j) _ _ rfl (fun h13 => ?_) (fun h13 => ?_)
      · skip
        refine hr.1 5 True _ _ (49, [some (.ref 0), some (.int (nI s)), some (.long s1), none, some (.int (nI j))], [.int 4, .long (s1 ^^^ 4294967295), .ref 0], [], D) rfl trivial ?_
        refine hr.2.2.1 _ _ _ _ _ (d + 1) rfl (by omega) (t_rwnum (s1 ^^^ 4294967295) 4 D hm (by omega)) (fun v S hq => ?_)
        obtain ⟨rfl, rfl⟩ := hq
        exact hr.2.2.2 _ _ _ rfl trivial ⟨rfl, by rw [← hf]⟩
      · skip
        refine hr.1 2 True _ _ (21, [some (.ref 0), some (.int (nI s)), some (.long s1), none, some (.int (nI j))], [.int 640, .int (nI j)], [], D) rfl trivial ?_
        refine hr.2.1 _ (640 ≤ nI j) _ _ rfl (fun _ => ?_) (fun h => absurd (by rw [show (640 : Int32) = nI 640 from rfl, nI_leI (by omega) (by omega)]; rw [hm] at h13; rw [nI_leI (by omega) (by omega)] at h13; omega) h)
        refine hr.1 5 True _ _ (49, [some (.ref 0), some (.int (nI s)), some (.long s1), none, some (.int (nI j))], [.int 4, .long (s1 ^^^ 4294967295), .ref 0], [], D) rfl trivial ?_
        refine hr.2.2.1 _ _ _ _ _ (d + 1) rfl (by omega) (t_rwnum (s1 ^^^ 4294967295) 4 D hm (by omega)) (fun v S hq => ?_)
        obtain ⟨rfl, rfl⟩ := hq
        exact hr.2.2.2 _ _ _ rfl trivial ⟨rfl, by rw [← hf]⟩
    | succ k ih =>
      intro j s1 hj hf
      refine hr.1 3 True _ _ (13, [some (.ref 0), some (.int (nI s)), some (.long s1), none, some (.int (nI j))], [.int (zg_i D 0 7), .int (nI j)], [], D) rfl trivial ?_
      refine hr.2.1 _ (zg_i D 0 7 ≤ nI j) _ _ rfl (fun h => absurd h (by rw [hm, nI_leI (by omega) (by omega)]; omega)) (fun _ => ?_)
      refine hr.1 2 True _ _ (21, [some (.ref 0), some (.int (nI s)), some (.long s1), none, some (.int (nI j))], [.int 640, .int (nI j)], [], D) rfl trivial ?_
      refine hr.2.1 _ (640 ≤ nI j) _ _ rfl (fun h => absurd h (by rw [show (640 : Int32) = nI 640 from rfl, nI_leI (by omega) (by omega)]; omega)) (fun _ => ?_)
      refine hr.1 5 True _ _ (32, [some (.ref 0), some (.int (nI s)), some (.long s1), none, some (.int (nI j))], [.int (zg_i D 4 (zn (nI j))), .long s1], [], D) rfl ⟨trivial, (pk_in j 640 (by omega))⟩ ?_
      refine hr.2.2.1 _ _ _ _ _ (d + 1) rfl (by omega) (t_rfour s1 (zg_i D 4 (zn (nI j))) D) (fun v S hq => ?_)
      obtain ⟨rfl, rfl⟩ := hq
      refine hr.1 3 True _ _ (7, [some (.ref 0), some (.int (nI s)), some (.long (fv_rfour s1 (zg_i D 4 (zn (nI j))) D)), none, some (.int ((nI j) + 1))], [], [], D) rfl trivial ?_
      rw [nI_1]
      exact ih (j + 1) _ (by omega) (by rw [← hf]; unfold fv_rfour zg_i; rw [zn_nI (by omega)]; rfl)
  refine hr.1 4 True _ _ (7, [some (.ref 0), some (.int (nI s)), some (.long 4294967295), none, some (.int (nI s))], [], [], D) rfl trivial ?_
  exact loop (min m 640 - s) s _ (by omega) rfl
