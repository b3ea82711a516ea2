/-! Rows of bytes -/
theorem zi_le {x y : Int32} : x ≤ y ↔ x.toInt ≤ y.toInt := Int32.le_iff_toInt_le
theorem zi_lt {x y : Int32} : x < y ↔ x.toInt < y.toInt := Int32.lt_iff_toInt_lt
theorem zin {x k : Int32} {n : Nat} (h0 : 0 ≤ x) (h1 : x < k) (hk : k.toInt = n) : vp_in x n := vp_in_iff.mpr ⟨zi_le.mp h0, by rw [← hk]; exact zi_lt.mp h1⟩
theorem zn_nI {n : Nat} (h : n < 2 ^ 31) : zn (nI n) = n := nI_clamp h
theorem zi_m1 (x : Int32) : x + -1 = x - 1 := (Int32.sub_eq_add_neg x 1).symm
theorem zg_pi (D : zx_D) (p k q j : Nat) (x : Int32) : zg_i (zp_i D p k x) q j = if q = p ∧ j = k then x else zg_i D q j := by
  unfold zg_i zp_i va_up
  by_cases h : q = p
  · subst h
    by_cases h2 : j = k <;> simp [h2]
  · simp [h]
theorem zg_pl (D : zx_D) (p k q j : Nat) (x : Int64) : zg_l (zp_l D p k x) q j = if q = p ∧ j = k then x else zg_l D q j := by
  unfold zg_l zp_l va_up
  by_cases h : q = p
  · subst h
    by_cases h2 : j = k <;> simp [h2]
  · simp [h]
theorem zg_il (D : zx_D) (p k q j : Nat) (x : Int64) : zg_i (zp_l D p k x) q j = zg_i D q j := rfl
theorem zg_li (D : zx_D) (p k q j : Nat) (x : Int32) : zg_l (zp_i D p k x) q j = zg_l D q j := rfl
theorem zp_i1 (D : zx_D) (p k q : Nat) (x : Int32) (h : q ≠ p) : (zp_i D p k x).1 q = D.1 q := zx_up_ne h
theorem zp_l1 (D : zx_D) (p k : Nat) (x : Int64) : (zp_l D p k x).1 = D.1 := rfl
def fr_app (r a : Nat) (n b : Int32) (D : zx_D) : zx_D := if zg_i D r 1 < n then zp_i (zp_i D a (zn (zg_i D r 1)) b) r 1 (zg_i D r 1 + 1) else zp_i D r 2 1
def fr_all (r a : Nat) (n : Int32) (g : Nat → Int32) : Nat → Nat → zx_D → zx_D
  | 0, _, D => D
  | k + 1, j, D => fr_all r a n g k (j + 1) (fr_app r a n (g j) D)
theorem fr_app_1 {r a q : Nat} {n b : Int32} {D : zx_D} (h1 : q ≠ r) (h2 : q ≠ a) : (fr_app r a n b D).1 q = D.1 q := by
  unfold fr_app
  split
  · rw [zp_i1 _ _ _ _ _ h1, zp_i1 _ _ _ _ _ h2]
  · rw [zp_i1 _ _ _ _ _ h1]
theorem fr_app_2 {r a : Nat} {n b : Int32} {D : zx_D} : (fr_app r a n b D).2 = D.2 := by
  unfold fr_app
  split <;> rfl
theorem fr_app_sz {r a : Nat} {n b : Int32} {D : zx_D} (hra : r ≠ a) (h0 : 0 ≤ zg_i D r 1) (hn : n.toInt < 2 ^ 30) : 0 ≤ zg_i (fr_app r a n b D) r 1 := by
  unfold fr_app
  split
  · rename_i h
    rw [zg_pi, if_pos ⟨rfl, rfl⟩]
    rw [zi_le] at h0 ⊢
    rw [zi_lt] at h
    rw [Int32.toInt_add]
    simp only [Int32.toInt_ofNat', Int32.toInt_zero] at *
    have e1 : (1 : Int32).toInt = 1 := rfl
    rw [e1, Int.bmod_eq_of_le (by omega) (by omega)]
    omega
  · rw [zg_pi, if_neg (fun e => by have := e.2; omega)]
    exact h0
set_option maxRecDepth 100000 in
set_option maxHeartbeats 4000000 in
theorem t_app_1 {l : Launch} {E : zx_E} {d : Nat} {rf : List Nat} (b : Int32) (D : zx_D) (h0 : 0 ≤ zg_i D 1 1) : zx_MC l E 22 d [.ref 1, .int b] (rf, D) (fun v S => v = none ∧ S = (rf, fr_app 1 2 400 b D)) := by
  refine zx_ofC (K := ck_Row_append) rfl (by decide +kernel) rfl ok_Row_append (Nat.le_of_ble_eq_true rfl) (fun Zp hr => ?_)
  show Zp (0, [some (.ref 1), some (.int b)], [], rf, D)
  refine hr.1 5 True _ _ (9, [some (.ref 1), some (.int b)], [.int 400, .int (zg_i D 1 1)], rf, D) rfl trivial ?_
  refine hr.2.1 _ (zg_i D 1 1 < 400) _ _ rfl (fun h9 => ?_) (fun h9 => ?_)
  · skip
    refine hr.1 12 True _ _ (38, [some (.ref 1), some (.int b)], [], rf, zp_i (zp_i D 2 (zn (zg_i D 1 1)) b) 1 1 ((zg_i D 1 1) + 1)) rfl ⟨trivial, (zin h0 h9 rfl)⟩ ?_
    exact hr.2.2.2 _ _ _ rfl trivial ⟨rfl, by simp only [fr_app, h9, if_true, if_false]⟩
  · skip
    refine hr.1 3 True _ _ (17, [some (.ref 1), some (.int b)], [], rf, zp_i D 1 2 1) rfl ⟨trivial, Or.inr rfl⟩ ?_
    exact hr.2.2.2 _ _ _ rfl trivial ⟨rfl, by simp only [fr_app, h9, if_true, if_false]⟩
set_option maxRecDepth 100000 in
set_option maxHeartbeats 4000000 in
theorem t_app_3 {l : Launch} {E : zx_E} {d : Nat} {rf : List Nat} (b : Int32) (D : zx_D) (h0 : 0 ≤ zg_i D 3 1) : zx_MC l E 22 d [.ref 3, .int b] (rf, D) (fun v S => v = none ∧ S = (rf, fr_app 3 4 640 b D)) := by
  refine zx_ofC (K := ck_Row_append) rfl (by decide +kernel) rfl ok_Row_append (Nat.le_of_ble_eq_true rfl) (fun Zp hr => ?_)
  show Zp (0, [some (.ref 3), some (.int b)], [], rf, D)
  refine hr.1 5 True _ _ (9, [some (.ref 3), some (.int b)], [.int 640, .int (zg_i D 3 1)], rf, D) rfl trivial ?_
  refine hr.2.1 _ (zg_i D 3 1 < 640) _ _ rfl (fun h9 => ?_) (fun h9 => ?_)
  · skip
    refine hr.1 12 True _ _ (38, [some (.ref 3), some (.int b)], [], rf, zp_i (zp_i D 4 (zn (zg_i D 3 1)) b) 3 1 ((zg_i D 3 1) + 1)) rfl ⟨trivial, (zin h0 h9 rfl)⟩ ?_
    exact hr.2.2.2 _ _ _ rfl trivial ⟨rfl, by simp only [fr_app, h9, if_true, if_false]⟩
  · skip
    refine hr.1 3 True _ _ (17, [some (.ref 3), some (.int b)], [], rf, zp_i D 3 2 1) rfl ⟨trivial, Or.inr rfl⟩ ?_
    exact hr.2.2.2 _ _ _ rfl trivial ⟨rfl, by simp only [fr_app, h9, if_true, if_false]⟩
set_option maxRecDepth 100000 in
set_option maxHeartbeats 4000000 in
theorem t_app_10 {l : Launch} {E : zx_E} {d : Nat} {rf : List Nat} (b : Int32) (D : zx_D) (h0 : 0 ≤ zg_i D 10 1) : zx_MC l E 22 d [.ref 10, .int b] (rf, D) (fun v S => v = none ∧ S = (rf, fr_app 10 11 400 b D)) := by
  refine zx_ofC (K := ck_Row_append) rfl (by decide +kernel) rfl ok_Row_append (Nat.le_of_ble_eq_true rfl) (fun Zp hr => ?_)
  show Zp (0, [some (.ref 10), some (.int b)], [], rf, D)
  refine hr.1 5 True _ _ (9, [some (.ref 10), some (.int b)], [.int 400, .int (zg_i D 10 1)], rf, D) rfl trivial ?_
  refine hr.2.1 _ (zg_i D 10 1 < 400) _ _ rfl (fun h9 => ?_) (fun h9 => ?_)
  · skip
    refine hr.1 12 True _ _ (38, [some (.ref 10), some (.int b)], [], rf, zp_i (zp_i D 11 (zn (zg_i D 10 1)) b) 10 1 ((zg_i D 10 1) + 1)) rfl ⟨trivial, (zin h0 h9 rfl)⟩ ?_
    exact hr.2.2.2 _ _ _ rfl trivial ⟨rfl, by simp only [fr_app, h9, if_true, if_false]⟩
  · skip
    refine hr.1 3 True _ _ (17, [some (.ref 10), some (.int b)], [], rf, zp_i D 10 2 1) rfl ⟨trivial, Or.inr rfl⟩ ?_
    exact hr.2.2.2 _ _ _ rfl trivial ⟨rfl, by simp only [fr_app, h9, if_true, if_false]⟩
set_option maxRecDepth 100000 in
set_option maxHeartbeats 4000000 in
theorem t_app_18 {l : Launch} {E : zx_E} {d : Nat} {rf : List Nat} (b : Int32) (D : zx_D) (h0 : 0 ≤ zg_i D 18 1) : zx_MC l E 22 d [.ref 18, .int b] (rf, D) (fun v S => v = none ∧ S = (rf, fr_app 18 19 640 b D)) := by
  refine zx_ofC (K := ck_Row_append) rfl (by decide +kernel) rfl ok_Row_append (Nat.le_of_ble_eq_true rfl) (fun Zp hr => ?_)
  show Zp (0, [some (.ref 18), some (.int b)], [], rf, D)
  refine hr.1 5 True _ _ (9, [some (.ref 18), some (.int b)], [.int 640, .int (zg_i D 18 1)], rf, D) rfl trivial ?_
  refine hr.2.1 _ (zg_i D 18 1 < 640) _ _ rfl (fun h9 => ?_) (fun h9 => ?_)
  · skip
    refine hr.1 12 True _ _ (38, [some (.ref 18), some (.int b)], [], rf, zp_i (zp_i D 19 (zn (zg_i D 18 1)) b) 18 1 ((zg_i D 18 1) + 1)) rfl ⟨trivial, (zin h0 h9 rfl)⟩ ?_
    exact hr.2.2.2 _ _ _ rfl trivial ⟨rfl, by simp only [fr_app, h9, if_true, if_false]⟩
  · skip
    refine hr.1 3 True _ _ (17, [some (.ref 18), some (.int b)], [], rf, zp_i D 18 2 1) rfl ⟨trivial, Or.inr rfl⟩ ?_
    exact hr.2.2.2 _ _ _ rfl trivial ⟨rfl, by simp only [fr_app, h9, if_true, if_false]⟩
set_option maxRecDepth 100000 in
set_option maxHeartbeats 4000000 in
theorem t_room_1 {l : Launch} {E : zx_E} {d : Nat} {rf : List Nat} (n : Int32) (D : zx_D) : zx_MC l E 21 d [.ref 1, .int n] (rf, D) (fun v S => v = some (.int (if 400 - zg_i D 1 1 < n then 0 else 1)) ∧ S = (rf, D)) := by
  refine zx_ofC (K := ck_Row_hasRoom) rfl (by decide +kernel) rfl ok_Row_hasRoom (Nat.le_of_ble_eq_true rfl) (fun Zp hr => ?_)
  show Zp (0, [some (.ref 1), some (.int n)], [], rf, D)
  refine hr.1 7 True _ _ (11, [some (.ref 1), some (.int n)], [.int (400 - (zg_i D 1 1)), .int n], rf, D) rfl trivial ?_
  refine hr.2.1 _ (400 - (zg_i D 1 1) < n) _ _ rfl (fun h11 => ?_) (fun h11 => ?_)
  · skip
    refine hr.1 1 True _ _ (19, [some (.ref 1), some (.int n)], [.int 0], rf, D) rfl trivial ?_
    exact hr.2.2.2 _ _ _ rfl (Or.inl rfl) ⟨by simp only [h11, if_true, if_false], rfl⟩
  · skip
    refine hr.1 2 True _ _ (19, [some (.ref 1), some (.int n)], [.int 1], rf, D) rfl trivial ?_
    exact hr.2.2.2 _ _ _ rfl (Or.inr rfl) ⟨by simp only [h11, if_true, if_false], rfl⟩
set_option maxRecDepth 100000 in
set_option maxHeartbeats 4000000 in
theorem t_byteAt_1 {l : Launch} {E : zx_E} {d : Nat} {rf : List Nat} (i : Int32) (D : zx_D) (hin : 0 ≤ i → i < zg_i D 1 1 → vp_in i 400) : zx_MC l E 26 d [.ref 1, .int i] (rf, D) (fun v S => v = some (.int (if i < 0 then -1 else if zg_i D 1 1 ≤ i then -1 else zg_i D 2 (zn i))) ∧ S = (rf, D)) := by
  refine zx_ofC (K := ck_Row_byteAt) rfl (by decide +kernel) rfl ok_Row_byteAt (Nat.le_of_ble_eq_true rfl) (fun Zp hr => ?_)
  show Zp (0, [some (.ref 1), some (.int i)], [], rf, D)
  refine hr.1 1 True _ _ (1, [some (.ref 1), some (.int i)], [.int i], rf, D) rfl trivial ?_
  refine hr.2.1 _ (i < 0) _ _ rfl (fun h1 => ?_) (fun h1 => ?_)
  · skip
    refine hr.1 1 True _ _ (22, [some (.ref 1), some (.int i)], [.int (-1)], rf, D) rfl trivial ?_
    exact hr.2.2.2 _ _ _ rfl trivial ⟨by first | rw [if_pos h1] | rw [if_neg h1, if_pos h9] | rw [if_neg h1, if_neg h9], rfl⟩
  · skip
    refine hr.1 3 True _ _ (9, [some (.ref 1), some (.int i)], [.int (zg_i D 1 1), .int i], rf, D) rfl trivial ?_
    refine hr.2.1 _ (zg_i D 1 1 ≤ i) _ _ rfl (fun h9 => ?_) (fun h9 => ?_)
    · skip
      refine hr.1 1 True _ _ (22, [some (.ref 1), some (.int i)], [.int (-1)], rf, D) rfl trivial ?_
      exact hr.2.2.2 _ _ _ rfl trivial ⟨by first | rw [if_pos h1] | rw [if_neg h1, if_pos h9] | rw [if_neg h1, if_neg h9], rfl⟩
    · skip
      refine hr.1 5 True _ _ (22, [some (.ref 1), some (.int i)], [.int (zg_i D 2 (zn i))], rf, D) rfl ⟨trivial, (hin (by rw [zi_le]; rw [zi_lt] at h1; omega) (by rw [zi_lt]; rw [zi_le] at h9; omega))⟩ ?_
      exact hr.2.2.2 _ _ _ rfl trivial ⟨by first | rw [if_pos h1] | rw [if_neg h1, if_pos h9] | rw [if_neg h1, if_neg h9], rfl⟩
set_option maxRecDepth 100000 in
set_option maxHeartbeats 4000000 in
theorem t_room_3 {l : Launch} {E : zx_E} {d : Nat} {rf : List Nat} (n : Int32) (D : zx_D) : zx_MC l E 21 d [.ref 3, .int n] (rf, D) (fun v S => v = some (.int (if 640 - zg_i D 3 1 < n then 0 else 1)) ∧ S = (rf, D)) := by
  refine zx_ofC (K := ck_Row_hasRoom) rfl (by decide +kernel) rfl ok_Row_hasRoom (Nat.le_of_ble_eq_true rfl) (fun Zp hr => ?_)
  show Zp (0, [some (.ref 3), some (.int n)], [], rf, D)
  refine hr.1 7 True _ _ (11, [some (.ref 3), some (.int n)], [.int (640 - (zg_i D 3 1)), .int n], rf, D) rfl trivial ?_
  refine hr.2.1 _ (640 - (zg_i D 3 1) < n) _ _ rfl (fun h11 => ?_) (fun h11 => ?_)
  · skip
    refine hr.1 1 True _ _ (19, [some (.ref 3), some (.int n)], [.int 0], rf, D) rfl trivial ?_
    exact hr.2.2.2 _ _ _ rfl (Or.inl rfl) ⟨by simp only [h11, if_true, if_false], rfl⟩
  · skip
    refine hr.1 2 True _ _ (19, [some (.ref 3), some (.int n)], [.int 1], rf, D) rfl trivial ?_
    exact hr.2.2.2 _ _ _ rfl (Or.inr rfl) ⟨by simp only [h11, if_true, if_false], rfl⟩
set_option maxRecDepth 100000 in
set_option maxHeartbeats 4000000 in
theorem t_byteAt_3 {l : Launch} {E : zx_E} {d : Nat} {rf : List Nat} (i : Int32) (D : zx_D) (hin : 0 ≤ i → i < zg_i D 3 1 → vp_in i 640) : zx_MC l E 26 d [.ref 3, .int i] (rf, D) (fun v S => v = some (.int (if i < 0 then -1 else if zg_i D 3 1 ≤ i then -1 else zg_i D 4 (zn i))) ∧ S = (rf, D)) := by
  refine zx_ofC (K := ck_Row_byteAt) rfl (by decide +kernel) rfl ok_Row_byteAt (Nat.le_of_ble_eq_true rfl) (fun Zp hr => ?_)
  show Zp (0, [some (.ref 3), some (.int i)], [], rf, D)
  refine hr.1 1 True _ _ (1, [some (.ref 3), some (.int i)], [.int i], rf, D) rfl trivial ?_
  refine hr.2.1 _ (i < 0) _ _ rfl (fun h1 => ?_) (fun h1 => ?_)
  · skip
    refine hr.1 1 True _ _ (22, [some (.ref 3), some (.int i)], [.int (-1)], rf, D) rfl trivial ?_
    exact hr.2.2.2 _ _ _ rfl trivial ⟨by first | rw [if_pos h1] | rw [if_neg h1, if_pos h9] | rw [if_neg h1, if_neg h9], rfl⟩
  · skip
    refine hr.1 3 True _ _ (9, [some (.ref 3), some (.int i)], [.int (zg_i D 3 1), .int i], rf, D) rfl trivial ?_
    refine hr.2.1 _ (zg_i D 3 1 ≤ i) _ _ rfl (fun h9 => ?_) (fun h9 => ?_)
    · skip
      refine hr.1 1 True _ _ (22, [some (.ref 3), some (.int i)], [.int (-1)], rf, D) rfl trivial ?_
      exact hr.2.2.2 _ _ _ rfl trivial ⟨by first | rw [if_pos h1] | rw [if_neg h1, if_pos h9] | rw [if_neg h1, if_neg h9], rfl⟩
    · skip
      refine hr.1 5 True _ _ (22, [some (.ref 3), some (.int i)], [.int (zg_i D 4 (zn i))], rf, D) rfl ⟨trivial, (hin (by rw [zi_le]; rw [zi_lt] at h1; omega) (by rw [zi_lt]; rw [zi_le] at h9; omega))⟩ ?_
      exact hr.2.2.2 _ _ _ rfl trivial ⟨by first | rw [if_pos h1] | rw [if_neg h1, if_pos h9] | rw [if_neg h1, if_neg h9], rfl⟩
set_option maxRecDepth 100000 in
set_option maxHeartbeats 4000000 in
theorem t_clear_10 {l : Launch} {E : zx_E} {d : Nat} {rf : List Nat} (D : zx_D) : zx_MC l E 20 d [.ref 10] (rf, D) (fun v S => v = none ∧ S = (rf, zp_i (zp_i D 10 1 0) 10 2 0)) := by
  refine zx_ofC (K := ck_Row_clear) rfl (by decide +kernel) rfl ok_Row_clear (Nat.le_of_ble_eq_true rfl) (fun Zp hr => ?_)
  show Zp (0, [some (.ref 10)], [], rf, D)
  refine hr.1 6 True _ _ (10, [some (.ref 10)], [], rf, zp_i (zp_i D 10 1 0) 10 2 0) rfl ⟨trivial, Or.inl rfl⟩ ?_
  exact hr.2.2.2 _ _ _ rfl trivial ⟨rfl, rfl⟩
set_option maxRecDepth 100000 in
set_option maxHeartbeats 4000000 in
theorem t_room_10 {l : Launch} {E : zx_E} {d : Nat} {rf : List Nat} (n : Int32) (D : zx_D) : zx_MC l E 21 d [.ref 10, .int n] (rf, D) (fun v S => v = some (.int (if 400 - zg_i D 10 1 < n then 0 else 1)) ∧ S = (rf, D)) := by
  refine zx_ofC (K := ck_Row_hasRoom) rfl (by decide +kernel) rfl ok_Row_hasRoom (Nat.le_of_ble_eq_true rfl) (fun Zp hr => ?_)
  show Zp (0, [some (.ref 10), some (.int n)], [], rf, D)
  refine hr.1 7 True _ _ (11, [some (.ref 10), some (.int n)], [.int (400 - (zg_i D 10 1)), .int n], rf, D) rfl trivial ?_
  refine hr.2.1 _ (400 - (zg_i D 10 1) < n) _ _ rfl (fun h11 => ?_) (fun h11 => ?_)
  · skip
    refine hr.1 1 True _ _ (19, [some (.ref 10), some (.int n)], [.int 0], rf, D) rfl trivial ?_
    exact hr.2.2.2 _ _ _ rfl (Or.inl rfl) ⟨by simp only [h11, if_true, if_false], rfl⟩
  · skip
    refine hr.1 2 True _ _ (19, [some (.ref 10), some (.int n)], [.int 1], rf, D) rfl trivial ?_
    exact hr.2.2.2 _ _ _ rfl (Or.inr rfl) ⟨by simp only [h11, if_true, if_false], rfl⟩
set_option maxRecDepth 100000 in
set_option maxHeartbeats 4000000 in
theorem t_clear_18 {l : Launch} {E : zx_E} {d : Nat} {rf : List Nat} (D : zx_D) : zx_MC l E 20 d [.ref 18] (rf, D) (fun v S => v = none ∧ S = (rf, zp_i (zp_i D 18 1 0) 18 2 0)) := by
  refine zx_ofC (K := ck_Row_clear) rfl (by decide +kernel) rfl ok_Row_clear (Nat.le_of_ble_eq_true rfl) (fun Zp hr => ?_)
  show Zp (0, [some (.ref 18)], [], rf, D)
  refine hr.1 6 True _ _ (10, [some (.ref 18)], [], rf, zp_i (zp_i D 18 1 0) 18 2 0) rfl ⟨trivial, Or.inl rfl⟩ ?_
  exact hr.2.2.2 _ _ _ rfl trivial ⟨rfl, rfl⟩
set_option maxRecDepth 100000 in
set_option maxHeartbeats 4000000 in
theorem t_all_18_23 {l : Launch} {E : zx_E} {d : Nat} {rf : List Nat} (s c : Nat) (D : zx_D) (h0 : 0 ≤ zg_i D 18 1) (hs : s + c ≤ 6) : zx_MC l E 23 (d + 1) [.ref 18, .ref 23, .int (nI s), .int (nI c)] (rf, D) (fun v S => v = none ∧ S = (rf, fr_all 18 19 640 ro_f c s D)) := by
  refine zx_ofC (K := ck_Row_appendAll) rfl (by decide +kernel) rfl ok_Row_appendAll (Nat.le_of_ble_eq_true rfl) (fun Zp hr => ?_)
  show Zp (0, [some (.ref 18), some (.ref 23), some (.int (nI s)), some (.int (nI c)), none], [], rf, D)
  have loop : ∀ (k j : Nat) (D1 : zx_D), j + k = s + c → 0 ≤ zg_i D1 18 1 → fr_all 18 19 640 ro_f k j D1 = fr_all 18 19 640 ro_f c s D → Zp (3, [some (.ref 18), some (.ref 23), some (.int (nI s)), some (.int (nI c)), some (.int (nI j))], [], rf, D1) := by
    intro k
    induction k with
    | zero =>
      intro j D1 hj h0 hf
      rw [Nat.add_zero] at hj
      refine hr.1 4 True _ _ (8, [some (.ref 18), some (.ref 23), some (.int (nI s)), some (.int (nI c)), some (.int (nI j))], [.int ((nI s) + (nI c)), .int (nI j)], rf, D1) rfl trivial ?_
      refine hr.2.1 _ ((nI s) + (nI c) ≤ nI j) _ _ rfl (fun _ => ?_) (fun h => absurd (by rw [nI_add, hj]; exact nI_le (Nat.le_refl _) (by omega)) h)
      exact hr.2.2.2 _ _ _ rfl trivial ⟨rfl, by rw [← hf]; rfl⟩
    | succ k ih =>
      intro j D1 hj h0 hf
      have hb : ro_f (zn (nI j)) = ro_f j := by rw [zn_nI (by omega)]
      refine hr.1 4 True _ _ (8, [some (.ref 18), some (.ref 23), some (.int (nI s)), some (.int (nI c)), some (.int (nI j))], [.int ((nI s) + (nI c)), .int (nI j)], rf, D1) rfl trivial ?_
      refine hr.2.1 _ ((nI s) + (nI c) ≤ nI j) _ _ rfl (fun h => absurd h (by rw [nI_add, nI_leI (by omega) (by omega)]; omega)) (fun _ => ?_)
      refine hr.1 4 True _ _ (16, [some (.ref 18), some (.ref 23), some (.int (nI s)), some (.int (nI c)), some (.int (nI j))], [.int (ro_f (zn (nI j))), .ref 18], rf, D1) rfl ⟨trivial, (pk_in j 6 (by omega))⟩ ?_
      rw [hb]
      refine hr.2.2.1 _ _ _ _ _ d rfl (by omega) (t_app_18 (ro_f j) D1 h0) (fun v S hq => ?_)
      obtain ⟨rfl, rfl⟩ := hq
      refine hr.1 2 True _ _ (3, [some (.ref 18), some (.ref 23), some (.int (nI s)), some (.int (nI c)), some (.int ((nI j) + 1))], [], rf, fr_app 18 19 640 (ro_f j) D1) rfl trivial ?_
      rw [nI_1]
      exact ih (j + 1) _ (by omega) (fr_app_sz (by decide) h0 (by decide)) hf
  refine hr.1 2 True _ _ (3, [some (.ref 18), some (.ref 23), some (.int (nI s)), some (.int (nI c)), some (.int (nI s))], [], rf, D) rfl trivial ?_
  exact loop c s D rfl h0 rfl
set_option maxRecDepth 100000 in
set_option maxHeartbeats 4000000 in
theorem t_all_18_2 {l : Launch} {E : zx_E} {d : Nat} {rf : List Nat} (s c : Nat) (D : zx_D) (h0 : 0 ≤ zg_i D 18 1) (hs : s + c ≤ 400) : zx_MC l E 23 (d + 1) [.ref 18, .ref 2, .int (nI s), .int (nI c)] (rf, D) (fun v S => v = none ∧ S = (rf, fr_all 18 19 640 (D.1 2) c s D)) := by
  refine zx_ofC (K := ck_Row_appendAll) rfl (by decide +kernel) rfl ok_Row_appendAll (Nat.le_of_ble_eq_true rfl) (fun Zp hr => ?_)
  show Zp (0, [some (.ref 18), some (.ref 2), some (.int (nI s)), some (.int (nI c)), none], [], rf, D)
  have loop : ∀ (k j : Nat) (D1 : zx_D), j + k = s + c → D1.1 2 = D.1 2 → 0 ≤ zg_i D1 18 1 → fr_all 18 19 640 (D.1 2) k j D1 = fr_all 18 19 640 (D.1 2) c s D → Zp (3, [some (.ref 18), some (.ref 2), some (.int (nI s)), some (.int (nI c)), some (.int (nI j))], [], rf, D1) := by
    intro k
    induction k with
    | zero =>
      intro j D1 hj hq h0 hf
      rw [Nat.add_zero] at hj
      refine hr.1 4 True _ _ (8, [some (.ref 18), some (.ref 2), some (.int (nI s)), some (.int (nI c)), some (.int (nI j))], [.int ((nI s) + (nI c)), .int (nI j)], rf, D1) rfl trivial ?_
      refine hr.2.1 _ ((nI s) + (nI c) ≤ nI j) _ _ rfl (fun _ => ?_) (fun h => absurd (by rw [nI_add, hj]; exact nI_le (Nat.le_refl _) (by omega)) h)
      exact hr.2.2.2 _ _ _ rfl trivial ⟨rfl, by rw [← hf]; rfl⟩
    | succ k ih =>
      intro j D1 hj hq h0 hf
      have hb : zg_i D1 2 (zn (nI j)) = D.1 2 j := by rw [zn_nI (by omega)]; exact congrFun hq j
      refine hr.1 4 True _ _ (8, [some (.ref 18), some (.ref 2), some (.int (nI s)), some (.int (nI c)), some (.int (nI j))], [.int ((nI s) + (nI c)), .int (nI j)], rf, D1) rfl trivial ?_
      refine hr.2.1 _ ((nI s) + (nI c) ≤ nI j) _ _ rfl (fun h => absurd h (by rw [nI_add, nI_leI (by omega) (by omega)]; omega)) (fun _ => ?_)
      refine hr.1 4 True _ _ (16, [some (.ref 18), some (.ref 2), some (.int (nI s)), some (.int (nI c)), some (.int (nI j))], [.int (zg_i D1 2 (zn (nI j))), .ref 18], rf, D1) rfl ⟨trivial, (pk_in j 400 (by omega))⟩ ?_
      rw [hb]
      refine hr.2.2.1 _ _ _ _ _ d rfl (by omega) (t_app_18 ((D.1 2) j) D1 h0) (fun v S hq => ?_)
      obtain ⟨rfl, rfl⟩ := hq
      refine hr.1 2 True _ _ (3, [some (.ref 18), some (.ref 2), some (.int (nI s)), some (.int (nI c)), some (.int ((nI j) + 1))], [], rf, fr_app 18 19 640 ((D.1 2) j) D1) rfl trivial ?_
      rw [nI_1]
      exact ih (j + 1) _ (by omega) (by rw [fr_app_1 (by decide) (by decide)]; exact hq) (fr_app_sz (by decide) h0 (by decide)) hf
  refine hr.1 2 True _ _ (3, [some (.ref 18), some (.ref 2), some (.int (nI s)), some (.int (nI c)), some (.int (nI s))], [], rf, D) rfl trivial ?_
  exact loop c s D rfl rfl h0 rfl
set_option maxRecDepth 100000 in
set_option maxHeartbeats 4000000 in
theorem t_all_18_21 {l : Launch} {E : zx_E} {d : Nat} {rf : List Nat} (s c : Nat) (D : zx_D) (h0 : 0 ≤ zg_i D 18 1) (hs : s + c ≤ 400) : zx_MC l E 23 (d + 1) [.ref 18, .ref 21, .int (nI s), .int (nI c)] (rf, D) (fun v S => v = none ∧ S = (rf, fr_all 18 19 640 (D.1 21) c s D)) := by
  refine zx_ofC (K := ck_Row_appendAll) rfl (by decide +kernel) rfl ok_Row_appendAll (Nat.le_of_ble_eq_true rfl) (fun Zp hr => ?_)
  show Zp (0, [some (.ref 18), some (.ref 21), some (.int (nI s)), some (.int (nI c)), none], [], rf, D)
  have loop : ∀ (k j : Nat) (D1 : zx_D), j + k = s + c → D1.1 21 = D.1 21 → 0 ≤ zg_i D1 18 1 → fr_all 18 19 640 (D.1 21) k j D1 = fr_all 18 19 640 (D.1 21) c s D → Zp (3, [some (.ref 18), some (.ref 21), some (.int (nI s)), some (.int (nI c)), some (.int (nI j))], [], rf, D1) := by
    intro k
    induction k with
    | zero =>
      intro j D1 hj hq h0 hf
      rw [Nat.add_zero] at hj
      refine hr.1 4 True _ _ (8, [some (.ref 18), some (.ref 21), some (.int (nI s)), some (.int (nI c)), some (.int (nI j))], [.int ((nI s) + (nI c)), .int (nI j)], rf, D1) rfl trivial ?_
      refine hr.2.1 _ ((nI s) + (nI c) ≤ nI j) _ _ rfl (fun _ => ?_) (fun h => absurd (by rw [nI_add, hj]; exact nI_le (Nat.le_refl _) (by omega)) h)
      exact hr.2.2.2 _ _ _ rfl trivial ⟨rfl, by rw [← hf]; rfl⟩
    | succ k ih =>
      intro j D1 hj hq h0 hf
      have hb : zg_i D1 21 (zn (nI j)) = D.1 21 j := by rw [zn_nI (by omega)]; exact congrFun hq j
      refine hr.1 4 True _ _ (8, [some (.ref 18), some (.ref 21), some (.int (nI s)), some (.int (nI c)), some (.int (nI j))], [.int ((nI s) + (nI c)), .int (nI j)], rf, D1) rfl trivial ?_
      refine hr.2.1 _ ((nI s) + (nI c) ≤ nI j) _ _ rfl (fun h => absurd h (by rw [nI_add, nI_leI (by omega) (by omega)]; omega)) (fun _ => ?_)
      refine hr.1 4 True _ _ (16, [some (.ref 18), some (.ref 21), some (.int (nI s)), some (.int (nI c)), some (.int (nI j))], [.int (zg_i D1 21 (zn (nI j))), .ref 18], rf, D1) rfl ⟨trivial, (pk_in j 400 (by omega))⟩ ?_
      rw [hb]
      refine hr.2.2.1 _ _ _ _ _ d rfl (by omega) (t_app_18 ((D.1 21) j) D1 h0) (fun v S hq => ?_)
      obtain ⟨rfl, rfl⟩ := hq
      refine hr.1 2 True _ _ (3, [some (.ref 18), some (.ref 21), some (.int (nI s)), some (.int (nI c)), some (.int ((nI j) + 1))], [], rf, fr_app 18 19 640 ((D.1 21) j) D1) rfl trivial ?_
      rw [nI_1]
      exact ih (j + 1) _ (by omega) (by rw [fr_app_1 (by decide) (by decide)]; exact hq) (fr_app_sz (by decide) h0 (by decide)) hf
  refine hr.1 2 True _ _ (3, [some (.ref 18), some (.ref 21), some (.int (nI s)), some (.int (nI c)), some (.int (nI s))], [], rf, D) rfl trivial ?_
  exact loop c s D rfl rfl h0 rfl
set_option maxRecDepth 100000 in
set_option maxHeartbeats 4000000 in
theorem t_all_18_22 {l : Launch} {E : zx_E} {d : Nat} {rf : List Nat} (s c : Nat) (D : zx_D) (h0 : 0 ≤ zg_i D 18 1) (hs : s + c ≤ 6) : zx_MC l E 23 (d + 1) [.ref 18, .ref 22, .int (nI s), .int (nI c)] (rf, D) (fun v S => v = none ∧ S = (rf, fr_all 18 19 640 (D.1 22) c s D)) := by
  refine zx_ofC (K := ck_Row_appendAll) rfl (by decide +kernel) rfl ok_Row_appendAll (Nat.le_of_ble_eq_true rfl) (fun Zp hr => ?_)
  show Zp (0, [some (.ref 18), some (.ref 22), some (.int (nI s)), some (.int (nI c)), none], [], rf, D)
  have loop : ∀ (k j : Nat) (D1 : zx_D), j + k = s + c → D1.1 22 = D.1 22 → 0 ≤ zg_i D1 18 1 → fr_all 18 19 640 (D.1 22) k j D1 = fr_all 18 19 640 (D.1 22) c s D → Zp (3, [some (.ref 18), some (.ref 22), some (.int (nI s)), some (.int (nI c)), some (.int (nI j))], [], rf, D1) := by
    intro k
    induction k with
    | zero =>
      intro j D1 hj hq h0 hf
      rw [Nat.add_zero] at hj
      refine hr.1 4 True _ _ (8, [some (.ref 18), some (.ref 22), some (.int (nI s)), some (.int (nI c)), some (.int (nI j))], [.int ((nI s) + (nI c)), .int (nI j)], rf, D1) rfl trivial ?_
      refine hr.2.1 _ ((nI s) + (nI c) ≤ nI j) _ _ rfl (fun _ => ?_) (fun h => absurd (by rw [nI_add, hj]; exact nI_le (Nat.le_refl _) (by omega)) h)
      exact hr.2.2.2 _ _ _ rfl trivial ⟨rfl, by rw [← hf]; rfl⟩
    | succ k ih =>
      intro j D1 hj hq h0 hf
      have hb : zg_i D1 22 (zn (nI j)) = D.1 22 j := by rw [zn_nI (by omega)]; exact congrFun hq j
      refine hr.1 4 True _ _ (8, [some (.ref 18), some (.ref 22), some (.int (nI s)), some (.int (nI c)), some (.int (nI j))], [.int ((nI s) + (nI c)), .int (nI j)], rf, D1) rfl trivial ?_
      refine hr.2.1 _ ((nI s) + (nI c) ≤ nI j) _ _ rfl (fun h => absurd h (by rw [nI_add, nI_leI (by omega) (by omega)]; omega)) (fun _ => ?_)
      refine hr.1 4 True _ _ (16, [some (.ref 18), some (.ref 22), some (.int (nI s)), some (.int (nI c)), some (.int (nI j))], [.int (zg_i D1 22 (zn (nI j))), .ref 18], rf, D1) rfl ⟨trivial, (pk_in j 6 (by omega))⟩ ?_
      rw [hb]
      refine hr.2.2.1 _ _ _ _ _ d rfl (by omega) (t_app_18 ((D.1 22) j) D1 h0) (fun v S hq => ?_)
      obtain ⟨rfl, rfl⟩ := hq
      refine hr.1 2 True _ _ (3, [some (.ref 18), some (.ref 22), some (.int (nI s)), some (.int (nI c)), some (.int ((nI j) + 1))], [], rf, fr_app 18 19 640 ((D.1 22) j) D1) rfl trivial ?_
      rw [nI_1]
      exact ih (j + 1) _ (by omega) (by rw [fr_app_1 (by decide) (by decide)]; exact hq) (fr_app_sz (by decide) h0 (by decide)) hf
  refine hr.1 2 True _ _ (3, [some (.ref 18), some (.ref 22), some (.int (nI s)), some (.int (nI c)), some (.int (nI s))], [], rf, D) rfl trivial ?_
  exact loop c s D rfl rfl h0 rfl
set_option maxRecDepth 100000 in
set_option maxHeartbeats 4000000 in
theorem t_all_10_4 {l : Launch} {E : zx_E} {d : Nat} {rf : List Nat} (s c : Nat) (D : zx_D) (h0 : 0 ≤ zg_i D 10 1) (hs : s + c ≤ 640) : zx_MC l E 23 (d + 1) [.ref 10, .ref 4, .int (nI s), .int (nI c)] (rf, D) (fun v S => v = none ∧ S = (rf, fr_all 10 11 400 (D.1 4) c s D)) := by
  refine zx_ofC (K := ck_Row_appendAll) rfl (by decide +kernel) rfl ok_Row_appendAll (Nat.le_of_ble_eq_true rfl) (fun Zp hr => ?_)
  show Zp (0, [some (.ref 10), some (.ref 4), some (.int (nI s)), some (.int (nI c)), none], [], rf, D)
  have loop : ∀ (k j : Nat) (D1 : zx_D), j + k = s + c → D1.1 4 = D.1 4 → 0 ≤ zg_i D1 10 1 → fr_all 10 11 400 (D.1 4) k j D1 = fr_all 10 11 400 (D.1 4) c s D → Zp (3, [some (.ref 10), some (.ref 4), some (.int (nI s)), some (.int (nI c)), some (.int (nI j))], [], rf, D1) := by
    intro k
    induction k with
    | zero =>
      intro j D1 hj hq h0 hf
      rw [Nat.add_zero] at hj
      refine hr.1 4 True _ _ (8, [some (.ref 10), some (.ref 4), some (.int (nI s)), some (.int (nI c)), some (.int (nI j))], [.int ((nI s) + (nI c)), .int (nI j)], rf, D1) rfl trivial ?_
      refine hr.2.1 _ ((nI s) + (nI c) ≤ nI j) _ _ rfl (fun _ => ?_) (fun h => absurd (by rw [nI_add, hj]; exact nI_le (Nat.le_refl _) (by omega)) h)
      exact hr.2.2.2 _ _ _ rfl trivial ⟨rfl, by rw [← hf]; rfl⟩
    | succ k ih =>
      intro j D1 hj hq h0 hf
      have hb : zg_i D1 4 (zn (nI j)) = D.1 4 j := by rw [zn_nI (by omega)]; exact congrFun hq j
      refine hr.1 4 True _ _ (8, [some (.ref 10), some (.ref 4), some (.int (nI s)), some (.int (nI c)), some (.int (nI j))], [.int ((nI s) + (nI c)), .int (nI j)], rf, D1) rfl trivial ?_
      refine hr.2.1 _ ((nI s) + (nI c) ≤ nI j) _ _ rfl (fun h => absurd h (by rw [nI_add, nI_leI (by omega) (by omega)]; omega)) (fun _ => ?_)
      refine hr.1 4 True _ _ (16, [some (.ref 10), some (.ref 4), some (.int (nI s)), some (.int (nI c)), some (.int (nI j))], [.int (zg_i D1 4 (zn (nI j))), .ref 10], rf, D1) rfl ⟨trivial, (pk_in j 640 (by omega))⟩ ?_
      rw [hb]
      refine hr.2.2.1 _ _ _ _ _ d rfl (by omega) (t_app_10 ((D.1 4) j) D1 h0) (fun v S hq => ?_)
      obtain ⟨rfl, rfl⟩ := hq
      refine hr.1 2 True _ _ (3, [some (.ref 10), some (.ref 4), some (.int (nI s)), some (.int (nI c)), some (.int ((nI j) + 1))], [], rf, fr_app 10 11 400 ((D.1 4) j) D1) rfl trivial ?_
      rw [nI_1]
      exact ih (j + 1) _ (by omega) (by rw [fr_app_1 (by decide) (by decide)]; exact hq) (fr_app_sz (by decide) h0 (by decide)) hf
  refine hr.1 2 True _ _ (3, [some (.ref 10), some (.ref 4), some (.int (nI s)), some (.int (nI c)), some (.int (nI s))], [], rf, D) rfl trivial ?_
  exact loop c s D rfl rfl h0 rfl
