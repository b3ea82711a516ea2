/-! More of the rows; feed, copy, change, sum -/
def zb_low (x : Int64) (j : Nat) : Int32 := (zo_lushr x (8 * nI j)).toInt32 &&& 255
def fr_dn (r a : Nat) (n : Int32) (g : Nat → Int32) : Nat → zx_D → zx_D
  | 0, D => D
  | k + 1, D => fr_dn r a n g k (fr_app r a n (g k) D)
theorem zl_lt {x y : Int64} : x < y ↔ x.toInt < y.toInt := Int64.lt_iff_toInt_lt
theorem zl_le {x y : Int64} : x ≤ y ↔ x.toInt ≤ y.toInt := Int64.le_iff_toInt_le
theorem zback {p k : Int32} {d : Int64} {n : Nat} (h1 : ¬ d < 1) (h2 : ¬ p.toInt64 < d) (h3 : p ≤ k) (hk : k.toInt = n) (hn : n < 2 ^ 30) : vp_in (p - d.toInt32) n := by
  rw [zl_lt] at h1 h2
  rw [zi_le, hk] at h3
  have e1 : (1 : Int64).toInt = 1 := rfl
  rw [e1] at h1
  rw [Int32.toInt_toInt64] at h2
  have e2 : d.toInt32.toInt = d.toInt := by
    rw [Int64.toInt_toInt32, Int.bmod_eq_of_le (by omega) (by omega)]
  rw [vp_in_iff, Int32.toInt_sub, e2, Int.bmod_eq_of_le (by omega) (by omega)]
  omega
def fv_back1 (p : Int32) (d_ : Int64) (D : zx_D) : Int32 := if d_ < 1 then 0 else if (p).toInt64 < d_ then 0 else if p ≤ 400 then zg_i D 2 (zn (p - ((d_).toInt32))) else 0
set_option maxRecDepth 100000 in
set_option maxHeartbeats 4000000 in
theorem t_back1 {l : Launch} {E : zx_E} {d : Nat} {rf : List Nat} (p : Int32) (d_ : Int64) (D : zx_D)  : zx_MC l E 27 d [.ref 1, .int p, .long d_] (rf, D) (fun v S => v = some (.int (fv_back1 p d_ D)) ∧ S = (rf, D)) := by
  refine zx_ofC (K := ck_Row_byteBack) rfl (by decide +kernel) rfl ok_Row_byteBack (Nat.le_of_ble_eq_true rfl) (fun Zp hr => ?_)
  show Zp (0, [some (.ref 1), some (.int p), some (.long d_), none], [], rf, D)
  refine hr.1 2 True _ _ (2, [some (.ref 1), some (.int p), some (.long d_), none], [.long 1, .long d_], rf, D) rfl trivial ?_
  refine hr.2.1 _ (d_ < 1) _ _ rfl (fun h2 => ?_) (fun h2 => ?_)
  · skip
    refine hr.1 1 True _ _ (23, [some (.ref 1), some (.int p), some (.long d_), none], [.int 0], rf, D) rfl trivial ?_
    exact hr.2.2.2 _ _ _ rfl trivial ⟨(by rw [fv_back1, if_pos h2]), rfl⟩
  · skip
    refine hr.1 3 True _ _ (9, [some (.ref 1), some (.int p), some (.long d_), none], [.long ((p).toInt64), .long d_], rf, D) rfl trivial ?_
    refine hr.2.1 _ ((p).toInt64 < d_) _ _ rfl (fun h9 => ?_) (fun h9 => ?_)
    · skip
      refine hr.1 1 True _ _ (23, [some (.ref 1), some (.int p), some (.long d_), none], [.int 0], rf, D) rfl trivial ?_
      exact hr.2.2.2 _ _ _ rfl trivial ⟨(by rw [fv_back1, if_neg h2, if_pos h9]), rfl⟩
    · skip
      refine hr.1 4 True _ _ (19, [some (.ref 1), some (.int p), some (.long d_), none], [.int 400, .int p], rf, D) rfl trivial ?_
      refine hr.2.1 _ (p ≤ 400) _ _ rfl (fun h19 => ?_) (fun h19 => ?_)
      · skip
        refine hr.1 7 True _ _ (33, [some (.ref 1), some (.int p), some (.long d_), none], [.int (zg_i D 2 (zn (p - ((d_).toInt32))))], rf, D) rfl ⟨trivial, (zback h2 h9 h19 rfl (by decide))⟩ ?_
        exact hr.2.2.2 _ _ _ rfl trivial ⟨(by rw [fv_back1, if_neg h2, if_neg h9, if_pos h19]), rfl⟩
      · skip
        refine hr.1 1 True _ _ (23, [some (.ref 1), some (.int p), some (.long d_), none], [.int 0], rf, D) rfl trivial ?_
        exact hr.2.2.2 _ _ _ rfl trivial ⟨(by rw [fv_back1, if_neg h2, if_neg h9, if_neg h19]), rfl⟩
def fv_back10 (p : Int32) (d_ : Int64) (D : zx_D) : Int32 := if d_ < 1 then 0 else if (p).toInt64 < d_ then 0 else if p ≤ 400 then zg_i D 11 (zn (p - ((d_).toInt32))) else 0
set_option maxRecDepth 100000 in
set_option maxHeartbeats 4000000 in
theorem t_back10 {l : Launch} {E : zx_E} {d : Nat} {rf : List Nat} (p : Int32) (d_ : Int64) (D : zx_D)  : zx_MC l E 27 d [.ref 10, .int p, .long d_] (rf, D) (fun v S => v = some (.int (fv_back10 p d_ D)) ∧ S = (rf, D)) := by
  refine zx_ofC (K := ck_Row_byteBack) rfl (by decide +kernel) rfl ok_Row_byteBack (Nat.le_of_ble_eq_true rfl) (fun Zp hr => ?_)
  show Zp (0, [some (.ref 10), some (.int p), some (.long d_), none], [], rf, D)
  refine hr.1 2 True _ _ (2, [some (.ref 10), some (.int p), some (.long d_), none], [.long 1, .long d_], rf, D) rfl trivial ?_
  refine hr.2.1 _ (d_ < 1) _ _ rfl (fun h2 => ?_) (fun h2 => ?_)
  · skip
    refine hr.1 1 True _ _ (23, [some (.ref 10), some (.int p), some (.long d_), none], [.int 0], rf, D) rfl trivial ?_
    exact hr.2.2.2 _ _ _ rfl trivial ⟨(by rw [fv_back10, if_pos h2]), rfl⟩
  · skip
    refine hr.1 3 True _ _ (9, [some (.ref 10), some (.int p), some (.long d_), none], [.long ((p).toInt64), .long d_], rf, D) rfl trivial ?_
    refine hr.2.1 _ ((p).toInt64 < d_) _ _ rfl (fun h9 => ?_) (fun h9 => ?_)
    · skip
      refine hr.1 1 True _ _ (23, [some (.ref 10), some (.int p), some (.long d_), none], [.int 0], rf, D) rfl trivial ?_
      exact hr.2.2.2 _ _ _ rfl trivial ⟨(by rw [fv_back10, if_neg h2, if_pos h9]), rfl⟩
    · skip
      refine hr.1 4 True _ _ (19, [some (.ref 10), some (.int p), some (.long d_), none], [.int 400, .int p], rf, D) rfl trivial ?_
      refine hr.2.1 _ (p ≤ 400) _ _ rfl (fun h19 => ?_) (fun h19 => ?_)
      · skip
        refine hr.1 7 True _ _ (33, [some (.ref 10), some (.int p), some (.long d_), none], [.int (zg_i D 11 (zn (p - ((d_).toInt32))))], rf, D) rfl ⟨trivial, (zback h2 h9 h19 rfl (by decide))⟩ ?_
        exact hr.2.2.2 _ _ _ rfl trivial ⟨(by rw [fv_back10, if_neg h2, if_neg h9, if_pos h19]), rfl⟩
      · skip
        refine hr.1 1 True _ _ (23, [some (.ref 10), some (.int p), some (.long d_), none], [.int 0], rf, D) rfl trivial ?_
        exact hr.2.2.2 _ _ _ rfl trivial ⟨(by rw [fv_back10, if_neg h2, if_neg h9, if_neg h19]), rfl⟩
set_option maxRecDepth 100000 in
set_option maxHeartbeats 4000000 in
theorem t_low_18 {l : Launch} {E : zx_E} {d : Nat} {rf : List Nat} (x : Int64) (c : Nat) (D : zx_D) (h0 : 0 ≤ zg_i D 18 1) (hc : c < 2 ^ 20) : zx_MC l E 24 (d + 1) [.ref 18, .long x, .int (nI c)] (rf, D) (fun v S => v = none ∧ S = (rf, fr_all 18 19 640 (zb_low x) c 0 D)) := by
  refine zx_ofC (K := ck_Row_appendLowFirst) rfl (by decide +kernel) rfl ok_Row_appendLowFirst (Nat.le_of_ble_eq_true rfl) (fun Zp hr => ?_)
  show Zp (0, [some (.ref 18), some (.long x), none, some (.int (nI c)), none], [], rf, D)
  have loop : ∀ (k : Nat) (j : Nat) (D1 : zx_D), j + k = c → 0 ≤ zg_i D1 18 1 → fr_all 18 19 640 (zb_low x) k j D1 = fr_all 18 19 640 (zb_low x) c 0 D → Zp (3, [some (.ref 18), some (.long x), none, some (.int (nI c)), some (.int (nI j))], [], rf, D1) := by
    intro k
    induction k with
    | zero =>
      intro j D1 hj h0 hf
      refine hr.1 2 True _ _ (6, [some (.ref 18), some (.long x), none, some (.int (nI c)), some (.int (nI j))], [.int (nI c), .int (nI j)], rf, D1) rfl trivial ?_
      refine hr.2.1 _ (nI c ≤ nI j) _ _ rfl (fun _ => ?_) (fun h => absurd (by rw [show j = c by omega]; exact nI_le (Nat.le_refl _) (by omega)) h)
      exact hr.2.2.2 _ _ _ rfl trivial ⟨rfl, by rw [← hf]; rfl⟩
    | succ k ih =>
      intro j D1 hj h0 hf
      refine hr.1 2 True _ _ (6, [some (.ref 18), some (.long x), none, some (.int (nI c)), some (.int (nI j))], [.int (nI c), .int (nI j)], rf, D1) rfl trivial ?_
      refine hr.2.1 _ (nI c ≤ nI j) _ _ rfl (fun h => absurd h (by rw [nI_leI (by omega) (by omega)]; omega)) (fun _ => ?_)
      refine hr.1 9 True _ _ (22, [some (.ref 18), some (.long x), none, some (.int (nI c)), some (.int (nI j))], [.int ((((zo_lushr x (8 * (nI j)))).toInt32) &&& 255), .ref 18], rf, D1) rfl trivial ?_
      refine hr.2.2.1 _ _ _ _ _ d rfl (by omega) (t_app_18 (zb_low x j) D1 h0) (fun v S hq => ?_)
      obtain ⟨rfl, rfl⟩ := hq
      refine hr.1 2 True _ _ (3, [some (.ref 18), some (.long x), none, some (.int (nI c)), some (.int ((nI j) + 1))], [], rf, fr_app 18 19 640 (zb_low x j) D1) rfl trivial ?_
      rw [nI_1]
      exact ih (j + 1) _ (by omega) (fr_app_sz (by decide) h0 (by decide)) hf
  refine hr.1 2 True _ _ (3, [some (.ref 18), some (.long x), none, some (.int (nI c)), some (.int 0)], [], rf, D) rfl trivial ?_
  exact loop c 0 D (by omega) h0 rfl
def fr_rep1 (x : Int64) : Nat → zx_D → zx_D
  | 0, D => D
  | k + 1, D => fr_rep1 x k (fr_app 1 2 400 (fv_back1 (zg_i D 1 1) x D) D)
set_option maxRecDepth 100000 in
set_option maxHeartbeats 4000000 in
theorem t_rep_1 {l : Launch} {E : zx_E} {d : Nat} {rf : List Nat} (x : Int64) (c : Nat) (D : zx_D) (h0 : 0 ≤ zg_i D 1 1) (hc : c < 2 ^ 20) : zx_MC l E 25 (d + 1) [.ref 1, .long x, .int (nI c)] (rf, D) (fun v S => v = none ∧ S = (rf, fr_rep1 x c D)) := by
  refine zx_ofC (K := ck_Row_repeat) rfl (by decide +kernel) rfl ok_Row_repeat (Nat.le_of_ble_eq_true rfl) (fun Zp hr => ?_)
  show Zp (0, [some (.ref 1), some (.long x), none, some (.int (nI c)), none], [], rf, D)
  have loop : ∀ (k : Nat) (j : Nat) (D1 : zx_D), j + k = c → 0 ≤ zg_i D1 1 1 → fr_rep1 x k D1 = fr_rep1 x c D → Zp (3, [some (.ref 1), some (.long x), none, some (.int (nI c)), some (.int (nI j))], [], rf, D1) := by
    intro k
    induction k with
    | zero =>
      intro j D1 hj h0 hf
      refine hr.1 2 True _ _ (6, [some (.ref 1), some (.long x), none, some (.int (nI c)), some (.int (nI j))], [.int (nI c), .int (nI j)], rf, D1) rfl trivial ?_
      refine hr.2.1 _ (nI c ≤ nI j) _ _ rfl (fun _ => ?_) (fun h => absurd (by rw [show j = c by omega]; exact nI_le (Nat.le_refl _) (by omega)) h)
      exact hr.2.2.2 _ _ _ rfl trivial ⟨rfl, by rw [← hf]; rfl⟩
    | succ k ih =>
      intro j D1 hj h0 hf
      refine hr.1 2 True _ _ (6, [some (.ref 1), some (.long x), none, some (.int (nI c)), some (.int (nI j))], [.int (nI c), .int (nI j)], rf, D1) rfl trivial ?_
      refine hr.2.1 _ (nI c ≤ nI j) _ _ rfl (fun h => absurd h (by rw [nI_leI (by omega) (by omega)]; omega)) (fun _ => ?_)
      refine hr.1 5 True _ _ (16, [some (.ref 1), some (.long x), none, some (.int (nI c)), some (.int (nI j))], [.long x, .int (zg_i D1 1 1), .ref 1, .ref 1], rf, D1) rfl trivial ?_
      refine hr.2.2.1 _ _ _ _ _ d rfl (by omega) (t_back1 (zg_i D1 1 1) x D1) (fun v S hq => ?_)
      obtain ⟨rfl, rfl⟩ := hq
      refine hr.2.2.1 _ _ _ _ _ d rfl (by omega) (t_app_1 (fv_back1 (zg_i D1 1 1) x D1) D1 h0) (fun v S hq => ?_)
      obtain ⟨rfl, rfl⟩ := hq
      refine hr.1 2 True _ _ (3, [some (.ref 1), some (.long x), none, some (.int (nI c)), some (.int ((nI j) + 1))], [], rf, fr_app 1 2 400 (fv_back1 (zg_i D1 1 1) x D1) D1) rfl trivial ?_
      rw [nI_1]
      exact ih (j + 1) _ (by omega) (fr_app_sz (by decide) h0 (by decide)) hf
  refine hr.1 2 True _ _ (3, [some (.ref 1), some (.long x), none, some (.int (nI c)), some (.int 0)], [], rf, D) rfl trivial ?_
  exact loop c 0 D (by omega) h0 rfl
def fr_rep10 (x : Int64) : Nat → zx_D → zx_D
  | 0, D => D
  | k + 1, D => fr_rep10 x k (fr_app 10 11 400 (fv_back10 (zg_i D 10 1) x D) D)
set_option maxRecDepth 100000 in
set_option maxHeartbeats 4000000 in
theorem t_rep_10 {l : Launch} {E : zx_E} {d : Nat} {rf : List Nat} (x : Int64) (c : Nat) (D : zx_D) (h0 : 0 ≤ zg_i D 10 1) (hc : c < 2 ^ 20) : zx_MC l E 25 (d + 1) [.ref 10, .long x, .int (nI c)] (rf, D) (fun v S => v = none ∧ S = (rf, fr_rep10 x c D)) := by
  refine zx_ofC (K := ck_Row_repeat) rfl (by decide +kernel) rfl ok_Row_repeat (Nat.le_of_ble_eq_true rfl) (fun Zp hr => ?_)
  show Zp (0, [some (.ref 10), some (.long x), none, some (.int (nI c)), none], [], rf, D)
  have loop : ∀ (k : Nat) (j : Nat) (D1 : zx_D), j + k = c → 0 ≤ zg_i D1 10 1 → fr_rep10 x k D1 = fr_rep10 x c D → Zp (3, [some (.ref 10), some (.long x), none, some (.int (nI c)), some (.int (nI j))], [], rf, D1) := by
    intro k
    induction k with
    | zero =>
      intro j D1 hj h0 hf
      refine hr.1 2 True _ _ (6, [some (.ref 10), some (.long x), none, some (.int (nI c)), some (.int (nI j))], [.int (nI c), .int (nI j)], rf, D1) rfl trivial ?_
      refine hr.2.1 _ (nI c ≤ nI j) _ _ rfl (fun _ => ?_) (fun h => absurd (by rw [show j = c by omega]; exact nI_le (Nat.le_refl _) (by omega)) h)
      exact hr.2.2.2 _ _ _ rfl trivial ⟨rfl, by rw [← hf]; rfl⟩
    | succ k ih =>
      intro j D1 hj h0 hf
      refine hr.1 2 True _ _ (6, [some (.ref 10), some (.long x), none, some (.int (nI c)), some (.int (nI j))], [.int (nI c), .int (nI j)], rf, D1) rfl trivial ?_
      refine hr.2.1 _ (nI c ≤ nI j) _ _ rfl (fun h => absurd h (by rw [nI_leI (by omega) (by omega)]; omega)) (fun _ => ?_)
      refine hr.1 5 True _ _ (16, [some (.ref 10), some (.long x), none, some (.int (nI c)), some (.int (nI j))], [.long x, .int (zg_i D1 10 1), .ref 10, .ref 10], rf, D1) rfl trivial ?_
      refine hr.2.2.1 _ _ _ _ _ d rfl (by omega) (t_back10 (zg_i D1 10 1) x D1) (fun v S hq => ?_)
      obtain ⟨rfl, rfl⟩ := hq
      refine hr.2.2.1 _ _ _ _ _ d rfl (by omega) (t_app_10 (fv_back10 (zg_i D1 10 1) x D1) D1 h0) (fun v S hq => ?_)
      obtain ⟨rfl, rfl⟩ := hq
      refine hr.1 2 True _ _ (3, [some (.ref 10), some (.long x), none, some (.int (nI c)), some (.int ((nI j) + 1))], [], rf, fr_app 10 11 400 (fv_back10 (zg_i D1 10 1) x D1) D1) rfl trivial ?_
      rw [nI_1]
      exact ih (j + 1) _ (by omega) (fr_app_sz (by decide) h0 (by decide)) hf
  refine hr.1 2 True _ _ (3, [some (.ref 10), some (.long x), none, some (.int (nI c)), some (.int 0)], [], rf, D) rfl trivial ?_
  exact loop c 0 D (by omega) h0 rfl
theorem zbec1 {m : Nat} {k : Int32} (h : m ≤ 400) (hk : k = 400) : ¬ (0 : Int32) < 0 ∧ ¬ (0 : Int32) < 0 ∧ ¬ (if k < nI m then k else nI m) < 0 ∧ zn 0 + zn (if k < nI m then k else nI m) ≤ 400 ∧ zn 0 + zn (if k < nI m then k else nI m) ≤ 400 := by
  subst hk
  have h1 : ¬ (400 : Int32) < nI m := by
    rw [show (400 : Int32) = nI 400 from rfl, nI_ltI (by omega) (by omega)]
    omega
  rw [if_neg h1, zn_nI (by omega)]
  have h2 : zn 0 = 0 := rfl
  rw [h2]
  exact ⟨by decide, by decide, nI_pos (by omega), by omega, by omega⟩
def fs_become1  (D : zx_D) : zx_D := zp_a (zp_i D 1 1 (if 400 < zg_i D 10 1 then 400 else zg_i D 10 1)) 2 (va_cpy (((zp_i D 1 1 (if 400 < zg_i D 10 1 then 400 else zg_i D 10 1))).1 11) (((zp_i D 1 1 (if 400 < zg_i D 10 1 then 400 else zg_i D 10 1))).1 2) (zn 0) (zn 0) (zn (if 400 < zg_i D 10 1 then 400 else zg_i D 10 1)))
set_option maxRecDepth 100000 in
set_option maxHeartbeats 4000000 in
theorem t_become1 {l : Launch} {E : zx_E} {d : Nat} {rf : List Nat}  (D : zx_D) {m : Nat} (hm : zg_i D 10 1 = nI m) (hm2 : m ≤ 400) : zx_MC l E 28 d [.ref 1, .ref 10] (rf, D) (fun v S => v = none ∧ S = (rf, fs_become1 D)) := by
  refine zx_ofC (K := ck_Row_become) rfl (by decide +kernel) rfl ok_Row_become (Nat.le_of_ble_eq_true rfl) (fun Zp hr => ?_)
  show Zp (0, [some (.ref 1), some (.ref 10)], [], rf, D)
  refine hr.1 17 True _ _ (33, [some (.ref 1), some (.ref 10)], [], rf, zp_a (zp_i D 1 1 (if 400 < zg_i D 10 1 then 400 else zg_i D 10 1)) 2 (va_cpy (((zp_i D 1 1 (if 400 < zg_i D 10 1 then 400 else zg_i D 10 1))).1 11) (((zp_i D 1 1 (if 400 < zg_i D 10 1 then 400 else zg_i D 10 1))).1 2) (zn 0) (zn 0) (zn (if 400 < zg_i D 10 1 then 400 else zg_i D 10 1)))) rfl ⟨trivial, (by show _ ∧ _; rw [hm]; exact zbec1 hm2 rfl)⟩ ?_
  exact hr.2.2.2 _ _ _ rfl trivial ⟨rfl, (by rw [fs_become1])⟩
theorem zbec3 {m : Nat} {k : Int32} (h : m ≤ 640) (hk : k = 640) : ¬ (0 : Int32) < 0 ∧ ¬ (0 : Int32) < 0 ∧ ¬ (if k < nI m then k else nI m) < 0 ∧ zn 0 + zn (if k < nI m then k else nI m) ≤ 640 ∧ zn 0 + zn (if k < nI m then k else nI m) ≤ 640 := by
  subst hk
  have h1 : ¬ (640 : Int32) < nI m := by
    rw [show (640 : Int32) = nI 640 from rfl, nI_ltI (by omega) (by omega)]
    omega
  rw [if_neg h1, zn_nI (by omega)]
  have h2 : zn 0 = 0 := rfl
  rw [h2]
  exact ⟨by decide, by decide, nI_pos (by omega), by omega, by omega⟩
def fs_become3  (D : zx_D) : zx_D := zp_a (zp_i D 3 1 (if 640 < zg_i D 18 1 then 640 else zg_i D 18 1)) 4 (va_cpy (((zp_i D 3 1 (if 640 < zg_i D 18 1 then 640 else zg_i D 18 1))).1 19) (((zp_i D 3 1 (if 640 < zg_i D 18 1 then 640 else zg_i D 18 1))).1 4) (zn 0) (zn 0) (zn (if 640 < zg_i D 18 1 then 640 else zg_i D 18 1)))
set_option maxRecDepth 100000 in
set_option maxHeartbeats 4000000 in
theorem t_become3 {l : Launch} {E : zx_E} {d : Nat} {rf : List Nat}  (D : zx_D) {m : Nat} (hm : zg_i D 18 1 = nI m) (hm2 : m ≤ 640) : zx_MC l E 28 d [.ref 3, .ref 18] (rf, D) (fun v S => v = none ∧ S = (rf, fs_become3 D)) := by
  refine zx_ofC (K := ck_Row_become) rfl (by decide +kernel) rfl ok_Row_become (Nat.le_of_ble_eq_true rfl) (fun Zp hr => ?_)
  show Zp (0, [some (.ref 3), some (.ref 18)], [], rf, D)
  refine hr.1 17 True _ _ (33, [some (.ref 3), some (.ref 18)], [], rf, zp_a (zp_i D 3 1 (if 640 < zg_i D 18 1 then 640 else zg_i D 18 1)) 4 (va_cpy (((zp_i D 3 1 (if 640 < zg_i D 18 1 then 640 else zg_i D 18 1))).1 19) (((zp_i D 3 1 (if 640 < zg_i D 18 1 then 640 else zg_i D 18 1))).1 4) (zn 0) (zn 0) (zn (if 640 < zg_i D 18 1 then 640 else zg_i D 18 1)))) rfl ⟨trivial, (by show _ ∧ _; rw [hm]; exact zbec3 hm2 rfl)⟩ ?_
  exact hr.2.2.2 _ _ _ rfl trivial ⟨rfl, (by rw [fs_become3])⟩
theorem zchg {i z x : Int32} (h : ¬ (if i < 0 then -1 else if z ≤ i then -1 else x) = -1) : 0 ≤ i ∧ i < z := by
  by_cases h1 : i < 0
  · rw [if_pos h1] at h
    exact absurd rfl h
  · rw [if_neg h1] at h
    by_cases h2 : z ≤ i
    · rw [if_pos h2] at h
      exact absurd rfl h
    · exact ⟨Int32.not_lt.mp h1, Int32.not_le.mp h2⟩
def fv_change (i b : Int32) (D : zx_D) : Int32 := if (if i < 0 then -1 else if zg_i D 3 1 ≤ i then -1 else zg_i D 4 (zn i)) = -1 then -1 else if b < 0 then -1 else if b ≤ 255 then if i < 0 then -1 else if zg_i D 3 1 ≤ i then -1 else zg_i D 4 (zn i) else -1
def fs_change (i b : Int32) (D : zx_D) : zx_D := if (if i < 0 then -1 else if zg_i D 3 1 ≤ i then -1 else zg_i D 4 (zn i)) = -1 then D else if b < 0 then D else if b ≤ 255 then zp_i D 4 (zn i) b else D
set_option maxRecDepth 100000 in
set_option maxHeartbeats 4000000 in
theorem t_change {l : Launch} {E : zx_E} {d : Nat} {rf : List Nat} (i b : Int32) (D : zx_D) (hin : 0 ≤ i → i < zg_i D 3 1 → vp_in i 640) : zx_MC l E 3 (d + 1) [.ref 0, .int i, .int b] (rf, D) (fun v S => v = some (.int (fv_change i b D)) ∧ S = (rf, fs_change i b D)) := by
  refine zx_ofC (K := ck_P_change) rfl (by decide +kernel) rfl ok_P_change (Nat.le_of_ble_eq_true rfl) (fun Zp hr => ?_)
  show Zp (0, [some (.ref 0), some (.int i), some (.int b), none], [], rf, D)
  refine hr.1 3 True _ _ (5, [some (.ref 0), some (.int i), some (.int b), none], [.int i, .ref 3], rf, D) rfl trivial ?_
  refine hr.2.2.1 _ _ _ _ _ d rfl (by omega) (t_byteAt_3 i D hin) (fun v S hq => ?_)
  obtain ⟨rfl, rfl⟩ := hq
  refine hr.1 3 True _ _ (11, [some (.ref 0), some (.int i), some (.int b), some (.int (if i < 0 then -1 else if zg_i D 3 1 ≤ i then -1 else zg_i D 4 (zn i)))], [.int (-1), .int (if i < 0 then -1 else if zg_i D 3 1 ≤ i then -1 else zg_i D 4 (zn i))], rf, D) rfl trivial ?_
  refine hr.2.1 _ ((if i < 0 then -1 else if zg_i D 3 1 ≤ i then -1 else zg_i D 4 (zn i)) = -1) _ _ rfl (fun h11 => ?_) (fun h11 => ?_)
  · skip
    refine hr.1 1 True _ _ (26, [some (.ref 0), some (.int i), some (.int b), some (.int (if i < 0 then -1 else if zg_i D 3 1 ≤ i then -1 else zg_i D 4 (zn i)))], [.int (-1)], rf, D) rfl trivial ?_
    exact hr.2.2.2 _ _ _ rfl trivial ⟨(by rw [fv_change, if_pos h11]), (by rw [fs_change, if_pos h11])⟩
  · skip
    refine hr.1 1 True _ _ (15, [some (.ref 0), some (.int i), some (.int b), some (.int (if i < 0 then -1 else if zg_i D 3 1 ≤ i then -1 else zg_i D 4 (zn i)))], [.int b], rf, D) rfl trivial ?_
    refine hr.2.1 _ (b < 0) _ _ rfl (fun h15 => ?_) (fun h15 => ?_)
    · skip
      refine hr.1 1 True _ _ (26, [some (.ref 0), some (.int i), some (.int b), some (.int (if i < 0 then -1 else if zg_i D 3 1 ≤ i then -1 else zg_i D 4 (zn i)))], [.int (-1)], rf, D) rfl trivial ?_
      exact hr.2.2.2 _ _ _ rfl trivial ⟨(by rw [fv_change, if_neg h11, if_pos h15]), (by rw [fs_change, if_neg h11, if_pos h15])⟩
    · skip
      refine hr.1 2 True _ _ (22, [some (.ref 0), some (.int i), some (.int b), some (.int (if i < 0 then -1 else if zg_i D 3 1 ≤ i then -1 else zg_i D 4 (zn i)))], [.int 255, .int b], rf, D) rfl trivial ?_
      refine hr.2.1 _ (b ≤ 255) _ _ rfl (fun h22 => ?_) (fun h22 => ?_)
      · skip
        refine hr.1 7 True _ _ (38, [some (.ref 0), some (.int i), some (.int b), some (.int (if i < 0 then -1 else if zg_i D 3 1 ≤ i then -1 else zg_i D 4 (zn i)))], [.int (if i < 0 then -1 else if zg_i D 3 1 ≤ i then -1 else zg_i D 4 (zn i))], rf, zp_i D 4 (zn i) b) rfl ⟨trivial, (hin (zchg h11).1 (zchg h11).2)⟩ ?_
        exact hr.2.2.2 _ _ _ rfl trivial ⟨(by rw [fv_change, if_neg h11, if_neg h15, if_pos h22]), (by rw [fs_change, if_neg h11, if_neg h15, if_pos h22])⟩
      · skip
        refine hr.1 1 True _ _ (26, [some (.ref 0), some (.int i), some (.int b), some (.int (if i < 0 then -1 else if zg_i D 3 1 ≤ i then -1 else zg_i D 4 (zn i)))], [.int (-1)], rf, D) rfl trivial ?_
        exact hr.2.2.2 _ _ _ rfl trivial ⟨(by rw [fv_change, if_neg h11, if_neg h15, if_neg h22]), (by rw [fs_change, if_neg h11, if_neg h15, if_neg h22])⟩
set_option maxRecDepth 100000 in
set_option maxHeartbeats 4000000 in
theorem t_sum0 {l : Launch} {E : zx_E} {d : Nat} {rf : List Nat} (D : zx_D) {m : Nat} (hm : zg_i D 1 1 = nI m) (hm2 : m ≤ 400) : zx_MC l E 12 (d + 2) [.ref 0, .int 0] (rf, D) (fun v S => v = some (.long (zc_sum4 (D.1 2) m 0)) ∧ S = (rf, D)) := by
  refine zx_ofC (K := ck_P_sum) rfl (by decide +kernel) rfl ok_P_sum (Nat.le_of_ble_eq_true rfl) (fun Zp hr => ?_)
  show Zp (0, [some (.ref 0), some (.int 0)], [], rf, D)
  refine hr.1 1 True _ _ (1, [some (.ref 0), some (.int 0)], [.int 0], rf, D) rfl trivial ?_
  refine hr.2.1 _ ((0 : Int32) = 0) _ _ rfl (fun _ => ?_) (fun h => absurd (by decide) h)
  refine hr.1 7 True _ _ (40, [some (.ref 0), some (.int 0)], [.int (zg_i D 1 1), .int 0, .ref 2], rf, D) rfl trivial ?_
  rw [hm]
  rw [show nI m = nI (0 + m) by rw [Nat.zero_add]]
  refine hr.2.2.1 _ _ _ _ _ (d + 1) rfl (by omega) (t_sum4_2 0 m D (by omega)) (fun v S hq => ?_)
  obtain ⟨rfl, rfl⟩ := hq
  exact hr.2.2.2 _ _ _ rfl trivial ⟨rfl, rfl⟩
set_option maxRecDepth 100000 in
set_option maxHeartbeats 4000000 in
theorem t_sum1 {l : Launch} {E : zx_E} {d : Nat} {rf : List Nat} (D : zx_D) {m : Nat} (hm : zg_i D 1 1 = nI m) (hm2 : m ≤ 400) : zx_MC l E 12 (d + 2) [.ref 0, .int 1] (rf, D) (fun v S => v = some (.long (zc_sum8 (D.1 2) m 0)) ∧ S = (rf, D)) := by
  refine zx_ofC (K := ck_P_sum) rfl (by decide +kernel) rfl ok_P_sum (Nat.le_of_ble_eq_true rfl) (fun Zp hr => ?_)
  show Zp (0, [some (.ref 0), some (.int 1)], [], rf, D)
  refine hr.1 1 True _ _ (1, [some (.ref 0), some (.int 1)], [.int 1], rf, D) rfl trivial ?_
  refine hr.2.1 _ ((1 : Int32) = 0) _ _ rfl (fun h => absurd h (by decide)) (fun _ => ?_)
  refine hr.1 7 True _ _ (19, [some (.ref 0), some (.int 1)], [.int (zg_i D 1 1), .int 0, .ref 2], rf, D) rfl trivial ?_
  rw [hm]
  rw [show nI m = nI (0 + m) by rw [Nat.zero_add]]
  refine hr.2.2.1 _ _ _ _ _ (d + 1) rfl (by omega) (t_sum8_2 0 m D (by omega)) (fun v S hq => ?_)
  obtain ⟨rfl, rfl⟩ := hq
  refine hr.1 1 True _ _ (43, [some (.ref 0), some (.int 1)], [.long (zc_sum8 (D.1 2) m 0)], rf, D) rfl trivial ?_
  exact hr.2.2.2 _ _ _ rfl trivial ⟨rfl, rfl⟩
def fv_feed0 (x : Int64) (n : Int32) (D : zx_D) : Int32 := if n < 1 then -1 else if 8 < n then -1 else if 400 - zg_i D 1 1 < n then -1 else zg_i (fr_dn 1 2 400 (zb_low x) (zn n) D) 1 1
def fs_feed0 (x : Int64) (n : Int32) (D : zx_D) : zx_D := if n < 1 then D else if 8 < n then D else if 400 - zg_i D 1 1 < n then D else fr_dn 1 2 400 (zb_low x) (zn n) D
set_option maxRecDepth 100000 in
set_option maxHeartbeats 4000000 in
theorem t_feed0 {l : Launch} {E : zx_E} {d : Nat} {rf : List Nat} (x : Int64) (n : Int32) (D : zx_D) (h0 : 0 ≤ zg_i D 1 1) : zx_MC l E 0 (d + 1) [.ref 0, .long x, .int n, .int 0] (rf, D) (fun v S => v = some (.int (fv_feed0 x n D)) ∧ S = (rf, fs_feed0 x n D)) := by
  refine zx_ofC (K := ck_P_feed) rfl (by decide +kernel) rfl ok_P_feed (Nat.le_of_ble_eq_true rfl) (fun Zp hr => ?_)
  show Zp (0, [some (.ref 0), some (.long x), none, some (.int n), some (.int 0), none, none], [], rf, D)
  have loop : ∀ (k : Nat) (D1 : zx_D), k ≤ 8 → 0 ≤ zg_i D1 1 1 → fr_dn 1 2 400 (zb_low x) k D1 = fr_dn 1 2 400 (zb_low x) (zn n) D → (∀ D2, D2 = fr_dn 1 2 400 (zb_low x) (zn n) D → some (Value.int (zg_i D2 1 1)) = some (.int (fv_feed0 x n D)) ∧ (rf, D2) = (rf, fs_feed0 x n D)) → Zp (35, [some (.ref 0), some (.long x), none, some (.int n), some (.int 0), some (.ref 1), some (.int (nI k - 1))], [], rf, D1) := by
    intro k
    induction k with
    | zero =>
      intro D1 h8 h0 hf ho
      refine hr.1 1 True _ _ (37, [some (.ref 0), some (.long x), none, some (.int n), some (.int 0), some (.ref 1), some (.int (nI 0 - 1))], [.int (nI 0 - 1)], rf, D1) rfl trivial ?_
      refine hr.2.1 _ (nI 0 - 1 < 0) _ _ rfl (fun _ => ?_) (fun h => absurd (by decide) h)
      refine hr.1 2 True _ _ (68, [some (.ref 0), some (.long x), none, some (.int n), some (.int 0), some (.ref 1), some (.int (nI 0 - 1))], [.int (zg_i D1 1 1)], rf, D1) rfl trivial ?_
      exact hr.2.2.2 _ _ _ rfl trivial (ho D1 hf)
    | succ k ih =>
      intro D1 h8 h0 hf ho
      refine hr.1 1 True _ _ (37, [some (.ref 0), some (.long x), none, some (.int n), some (.int 0), some (.ref 1), some (.int (nI (k + 1) - 1))], [.int (nI (k + 1) - 1)], rf, D1) rfl trivial ?_
      refine hr.2.1 _ (nI (k + 1) - 1 < 0) _ _ rfl (fun h => absurd h (by rw [nI_pred]; exact nI_pos (by omega))) (fun _ => ?_)
      refine hr.1 9 True _ _ (54, [some (.ref 0), some (.long x), none, some (.int n), some (.int 0), some (.ref 1), some (.int (nI (k + 1) - 1))], [.int ((((zo_lushr x (8 * (nI (k + 1) - 1)))).toInt32) &&& 255), .ref 1], rf, D1) rfl trivial ?_
      rw [nI_pred]
      refine hr.2.2.1 _ _ _ _ _ d rfl (by omega) (t_app_1 (zb_low x k) D1 h0) (fun v S hq => ?_)
      obtain ⟨rfl, rfl⟩ := hq
      refine hr.1 2 True _ _ (35, [some (.ref 0), some (.long x), none, some (.int n), some (.int 0), some (.ref 1), some (.int ((nI k) + (-1)))], [], rf, fr_app 1 2 400 (zb_low x k) D1) rfl trivial ?_
      rw [zi_m1]
      exact ih _ (by omega) (fr_app_sz (by decide) h0 (by decide)) hf ho
  refine hr.1 2 True _ _ (3, [some (.ref 0), some (.long x), none, some (.int n), some (.int 0), none, none], [.int 0, .ref 0], rf, D) rfl trivial ?_
  refine hr.2.2.1 _ _ _ _ _ d rfl (by omega) (t_rowOf0 D) (fun v S hq => ?_)
  obtain ⟨rfl, rfl⟩ := hq
  refine hr.1 3 True _ _ (10, [some (.ref 0), some (.long x), none, some (.int n), some (.int 0), some (.ref 1), none], [.int 1, .int n], rf, D) rfl trivial ?_
  refine hr.2.1 _ (n < 1) _ _ rfl (fun h10 => ?_) (fun h10 => ?_)
  · skip
    refine hr.1 1 True _ _ (29, [some (.ref 0), some (.long x), none, some (.int n), some (.int 0), some (.ref 1), none], [.int (-1)], rf, D) rfl trivial ?_
    exact hr.2.2.2 _ _ _ rfl trivial ⟨by rw [fv_feed0, if_pos h10], by rw [fs_feed0, if_pos h10]⟩
  · skip
    refine hr.1 2 True _ _ (16, [some (.ref 0), some (.long x), none, some (.int n), some (.int 0), some (.ref 1), none], [.int 8, .int n], rf, D) rfl trivial ?_
    refine hr.2.1 _ (8 < n) _ _ rfl (fun h16 => ?_) (fun h16 => ?_)
    · skip
      refine hr.1 1 True _ _ (29, [some (.ref 0), some (.long x), none, some (.int n), some (.int 0), some (.ref 1), none], [.int (-1)], rf, D) rfl trivial ?_
      exact hr.2.2.2 _ _ _ rfl trivial ⟨by rw [fv_feed0, if_neg h10, if_pos h16], by rw [fs_feed0, if_neg h10, if_pos h16]⟩
    · skip
      refine hr.1 2 True _ _ (22, [some (.ref 0), some (.long x), none, some (.int n), some (.int 0), some (.ref 1), none], [.int n, .ref 1], rf, D) rfl trivial ?_
      refine hr.2.2.1 _ _ _ _ _ d rfl (by omega) (t_room_1 n D) (fun v S hq => ?_)
      obtain ⟨rfl, rfl⟩ := hq
      by_cases hroom : 400 - zg_i D 1 1 < n
      · rw [if_pos hroom]
        refine hr.2.1 _ (¬ (0 : Int32) = 0) _ _ rfl (fun h => absurd h (by decide)) (fun _ => ?_)
        refine hr.1 1 True _ _ (29, [some (.ref 0), some (.long x), none, some (.int n), some (.int 0), some (.ref 1), none], [.int (-1)], rf, D) rfl trivial ?_
        exact hr.2.2.2 _ _ _ rfl trivial ⟨by rw [fv_feed0, if_neg h10, if_neg h16, if_pos hroom], by rw [fs_feed0, if_neg h10, if_neg h16, if_pos hroom]⟩
      · rw [if_neg hroom]
        refine hr.2.1 _ (¬ (1 : Int32) = 0) _ _ rfl (fun _ => ?_) (fun h => absurd (by decide) h)
        refine hr.1 4 True _ _ (35, [some (.ref 0), some (.long x), none, some (.int n), some (.int 0), some (.ref 1), some (.int (n - 1))], [], rf, D) rfl trivial ?_
        obtain ⟨m, hm8, hmn⟩ : ∃ m : Nat, m ≤ 8 ∧ n = nI m := nI_of2 (M := 8) rfl (fun q => h10 (Int32.lt_trans q (by decide))) (Int32.not_lt.mp h16)
        have hz : zn n = m := by rw [hmn, zn_nI (by omega)]
        have h35 := loop m D hm8 h0 (by rw [hz]) (fun D2 h2 => ⟨by rw [fv_feed0, if_neg h10, if_neg h16, if_neg hroom, h2], by rw [fs_feed0, if_neg h10, if_neg h16, if_neg hroom, h2]⟩)
        rw [← hmn] at h35
        exact h35
def fv_feed1 (x : Int64) (n : Int32) (D : zx_D) : Int32 := if n < 1 then -1 else if 8 < n then -1 else if 640 - zg_i D 3 1 < n then -1 else zg_i (fr_dn 3 4 640 (zb_low x) (zn n) D) 3 1
def fs_feed1 (x : Int64) (n : Int32) (D : zx_D) : zx_D := if n < 1 then D else if 8 < n then D else if 640 - zg_i D 3 1 < n then D else fr_dn 3 4 640 (zb_low x) (zn n) D
set_option maxRecDepth 100000 in
set_option maxHeartbeats 4000000 in
theorem t_feed1 {l : Launch} {E : zx_E} {d : Nat} {rf : List Nat} (x : Int64) (n : Int32) (D : zx_D) (h0 : 0 ≤ zg_i D 3 1) : zx_MC l E 0 (d + 1) [.ref 0, .long x, .int n, .int 1] (rf, D) (fun v S => v = some (.int (fv_feed1 x n D)) ∧ S = (rf, fs_feed1 x n D)) := by
  refine zx_ofC (K := ck_P_feed) rfl (by decide +kernel) rfl ok_P_feed (Nat.le_of_ble_eq_true rfl) (fun Zp hr => ?_)
  show Zp (0, [some (.ref 0), some (.long x), none, some (.int n), some (.int 1), none, none], [], rf, D)
  have loop : ∀ (k : Nat) (D1 : zx_D), k ≤ 8 → 0 ≤ zg_i D1 3 1 → fr_dn 3 4 640 (zb_low x) k D1 = fr_dn 3 4 640 (zb_low x) (zn n) D → (∀ D2, D2 = fr_dn 3 4 640 (zb_low x) (zn n) D → some (Value.int (zg_i D2 3 1)) = some (.int (fv_feed1 x n D)) ∧ (rf, D2) = (rf, fs_feed1 x n D)) → Zp (35, [some (.ref 0), some (.long x), none, some (.int n), some (.int 1), some (.ref 3), some (.int (nI k - 1))], [], rf, D1) := by
    intro k
    induction k with
    | zero =>
      intro D1 h8 h0 hf ho
      refine hr.1 1 True _ _ (37, [some (.ref 0), some (.long x), none, some (.int n), some (.int 1), some (.ref 3), some (.int (nI 0 - 1))], [.int (nI 0 - 1)], rf, D1) rfl trivial ?_
      refine hr.2.1 _ (nI 0 - 1 < 0) _ _ rfl (fun _ => ?_) (fun h => absurd (by decide) h)
      refine hr.1 2 True _ _ (68, [some (.ref 0), some (.long x), none, some (.int n), some (.int 1), some (.ref 3), some (.int (nI 0 - 1))], [.int (zg_i D1 3 1)], rf, D1) rfl trivial ?_
      exact hr.2.2.2 _ _ _ rfl trivial (ho D1 hf)
    | succ k ih =>
      intro D1 h8 h0 hf ho
      refine hr.1 1 True _ _ (37, [some (.ref 0), some (.long x), none, some (.int n), some (.int 1), some (.ref 3), some (.int (nI (k + 1) - 1))], [.int (nI (k + 1) - 1)], rf, D1) rfl trivial ?_
      refine hr.2.1 _ (nI (k + 1) - 1 < 0) _ _ rfl (fun h => absurd h (by rw [nI_pred]; exact nI_pos (by omega))) (fun _ => ?_)
      refine hr.1 9 True _ _ (54, [some (.ref 0), some (.long x), none, some (.int n), some (.int 1), some (.ref 3), some (.int (nI (k + 1) - 1))], [.int ((((zo_lushr x (8 * (nI (k + 1) - 1)))).toInt32) &&& 255), .ref 3], rf, D1) rfl trivial ?_
      rw [nI_pred]
      refine hr.2.2.1 _ _ _ _ _ d rfl (by omega) (t_app_3 (zb_low x k) D1 h0) (fun v S hq => ?_)
      obtain ⟨rfl, rfl⟩ := hq
      refine hr.1 2 True _ _ (35, [some (.ref 0), some (.long x), none, some (.int n), some (.int 1), some (.ref 3), some (.int ((nI k) + (-1)))], [], rf, fr_app 3 4 640 (zb_low x k) D1) rfl trivial ?_
      rw [zi_m1]
      exact ih _ (by omega) (fr_app_sz (by decide) h0 (by decide)) hf ho
  refine hr.1 2 True _ _ (3, [some (.ref 0), some (.long x), none, some (.int n), some (.int 1), none, none], [.int 1, .ref 0], rf, D) rfl trivial ?_
  refine hr.2.2.1 _ _ _ _ _ d rfl (by omega) (t_rowOf1 D) (fun v S hq => ?_)
  obtain ⟨rfl, rfl⟩ := hq
  refine hr.1 3 True _ _ (10, [some (.ref 0), some (.long x), none, some (.int n), some (.int 1), some (.ref 3), none], [.int 1, .int n], rf, D) rfl trivial ?_
  refine hr.2.1 _ (n < 1) _ _ rfl (fun h10 => ?_) (fun h10 => ?_)
  · skip
    refine hr.1 1 True _ _ (29, [some (.ref 0), some (.long x), none, some (.int n), some (.int 1), some (.ref 3), none], [.int (-1)], rf, D) rfl trivial ?_
    exact hr.2.2.2 _ _ _ rfl trivial ⟨by rw [fv_feed1, if_pos h10], by rw [fs_feed1, if_pos h10]⟩
  · skip
    refine hr.1 2 True _ _ (16, [some (.ref 0), some (.long x), none, some (.int n), some (.int 1), some (.ref 3), none], [.int 8, .int n], rf, D) rfl trivial ?_
    refine hr.2.1 _ (8 < n) _ _ rfl (fun h16 => ?_) (fun h16 => ?_)
    · skip
      refine hr.1 1 True _ _ (29, [some (.ref 0), some (.long x), none, some (.int n), some (.int 1), some (.ref 3), none], [.int (-1)], rf, D) rfl trivial ?_
      exact hr.2.2.2 _ _ _ rfl trivial ⟨by rw [fv_feed1, if_neg h10, if_pos h16], by rw [fs_feed1, if_neg h10, if_pos h16]⟩
    · skip
      refine hr.1 2 True _ _ (22, [some (.ref 0), some (.long x), none, some (.int n), some (.int 1), some (.ref 3), none], [.int n, .ref 3], rf, D) rfl trivial ?_
      refine hr.2.2.1 _ _ _ _ _ d rfl (by omega) (t_room_3 n D) (fun v S hq => ?_)
      obtain ⟨rfl, rfl⟩ := hq
      by_cases hroom : 640 - zg_i D 3 1 < n
      · rw [if_pos hroom]
        refine hr.2.1 _ (¬ (0 : Int32) = 0) _ _ rfl (fun h => absurd h (by decide)) (fun _ => ?_)
        refine hr.1 1 True _ _ (29, [some (.ref 0), some (.long x), none, some (.int n), some (.int 1), some (.ref 3), none], [.int (-1)], rf, D) rfl trivial ?_
        exact hr.2.2.2 _ _ _ rfl trivial ⟨by rw [fv_feed1, if_neg h10, if_neg h16, if_pos hroom], by rw [fs_feed1, if_neg h10, if_neg h16, if_pos hroom]⟩
      · rw [if_neg hroom]
        refine hr.2.1 _ (¬ (1 : Int32) = 0) _ _ rfl (fun _ => ?_) (fun h => absurd (by decide) h)
        refine hr.1 4 True _ _ (35, [some (.ref 0), some (.long x), none, some (.int n), some (.int 1), some (.ref 3), some (.int (n - 1))], [], rf, D) rfl trivial ?_
        obtain ⟨m, hm8, hmn⟩ : ∃ m : Nat, m ≤ 8 ∧ n = nI m := nI_of2 (M := 8) rfl (fun q => h10 (Int32.lt_trans q (by decide))) (Int32.not_lt.mp h16)
        have hz : zn n = m := by rw [hmn, zn_nI (by omega)]
        have h35 := loop m D hm8 h0 (by rw [hz]) (fun D2 h2 => ⟨by rw [fv_feed1, if_neg h10, if_neg h16, if_neg hroom, h2], by rw [fs_feed1, if_neg h10, if_neg h16, if_neg hroom, h2]⟩)
        rw [← hmn] at h35
        exact h35
