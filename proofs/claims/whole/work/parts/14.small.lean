/-! Small methods of the class -/
def fv_isSort (x : Int32) (D : zx_D) : Int32 := if x = 0 then 1 else if x = 1 then 1 else if ¬ x = 4 then 0 else 1
set_option maxRecDepth 100000 in
set_option maxHeartbeats 4000000 in
theorem t_isSort {l : Launch} {E : zx_E} {d : Nat} {rf : List Nat} (x : Int32) (D : zx_D)  : zx_MC l E 14 d [.int x] (rf, D) (fun v S => v = some (.int (fv_isSort x D)) ∧ S = (rf, D)) := by
  refine zx_ofC (K := ck_P_isSort) rfl (by decide +kernel) rfl ok_P_isSort (Nat.le_of_ble_eq_true rfl) (fun Zp hr => ?_)
  show Zp (0, [some (.int x)], [], rf, D)
  refine hr.1 1 True _ _ (1, [some (.int x)], [.int x], rf, D) rfl trivial ?_
  refine hr.2.1 _ (x = 0) _ _ rfl (fun h1 => ?_) (fun h1 => ?_)
  · skip
    refine hr.1 2 True _ _ (19, [some (.int x)], [.int 1], rf, D) rfl trivial ?_
    exact hr.2.2.2 _ _ _ rfl (Or.inr rfl) ⟨(by rw [fv_isSort, if_pos h1]), rfl⟩
  · skip
    refine hr.1 2 True _ _ (6, [some (.int x)], [.int 1, .int x], rf, D) rfl trivial ?_
    refine hr.2.1 _ (x = 1) _ _ rfl (fun h6 => ?_) (fun h6 => ?_)
    · skip
      refine hr.1 2 True _ _ (19, [some (.int x)], [.int 1], rf, D) rfl trivial ?_
      exact hr.2.2.2 _ _ _ rfl (Or.inr rfl) ⟨(by rw [fv_isSort, if_neg h1, if_pos h6]), rfl⟩
    · skip
      refine hr.1 2 True _ _ (11, [some (.int x)], [.int 4, .int x], rf, D) rfl trivial ?_
      refine hr.2.1 _ (¬ x = 4) _ _ rfl (fun h11 => ?_) (fun h11 => ?_)
      · skip
        refine hr.1 1 True _ _ (19, [some (.int x)], [.int 0], rf, D) rfl trivial ?_
        exact hr.2.2.2 _ _ _ rfl (Or.inl rfl) ⟨(by rw [fv_isSort, if_neg h1, if_neg h6, if_pos h11]), rfl⟩
      · skip
        refine hr.1 2 True _ _ (19, [some (.int x)], [.int 1], rf, D) rfl trivial ?_
        exact hr.2.2.2 _ _ _ rfl (Or.inr rfl) ⟨(by rw [fv_isSort, if_neg h1, if_neg h6, if_neg h11]), rfl⟩
def fv_checkSize (x : Int32) (D : zx_D) : Int32 := if ¬ x = 4 then if ¬ x = 1 then 0 else 4 else 8
set_option maxRecDepth 100000 in
set_option maxHeartbeats 4000000 in
theorem t_checkSize {l : Launch} {E : zx_E} {d : Nat} {rf : List Nat} (x : Int32) (D : zx_D)  : zx_MC l E 15 d [.int x] (rf, D) (fun v S => v = some (.int (fv_checkSize x D)) ∧ S = (rf, D)) := by
  refine zx_ofC (K := ck_P_checkSize) rfl (by decide +kernel) rfl ok_P_checkSize (Nat.le_of_ble_eq_true rfl) (fun Zp hr => ?_)
  show Zp (0, [some (.int x)], [], rf, D)
  refine hr.1 2 True _ _ (2, [some (.int x)], [.int 4, .int x], rf, D) rfl trivial ?_
  refine hr.2.1 _ (¬ x = 4) _ _ rfl (fun h2 => ?_) (fun h2 => ?_)
  · skip
    refine hr.1 2 True _ _ (12, [some (.int x)], [.int 1, .int x], rf, D) rfl trivial ?_
    refine hr.2.1 _ (¬ x = 1) _ _ rfl (fun h12 => ?_) (fun h12 => ?_)
    · skip
      refine hr.1 1 True _ _ (20, [some (.int x)], [.int 0], rf, D) rfl trivial ?_
      exact hr.2.2.2 _ _ _ rfl trivial ⟨(by rw [fv_checkSize, if_pos h2, if_pos h12]), rfl⟩
    · skip
      refine hr.1 2 True _ _ (20, [some (.int x)], [.int 4], rf, D) rfl trivial ?_
      exact hr.2.2.2 _ _ _ rfl trivial ⟨(by rw [fv_checkSize, if_pos h2, if_neg h12]), rfl⟩
  · skip
    refine hr.1 2 True _ _ (20, [some (.int x)], [.int 8], rf, D) rfl trivial ?_
    exact hr.2.2.2 _ _ _ rfl trivial ⟨(by rw [fv_checkSize, if_neg h2]), rfl⟩
def fv_areProps (x : Int32) (D : zx_D) : Int32 := if x < 0 then 0 else if x < 225 then if 3 < (zo_rem x 9) + (zo_rem (x / 9) 5) then 0 else 1 else 0
set_option maxRecDepth 100000 in
set_option maxHeartbeats 4000000 in
theorem t_areProps {l : Launch} {E : zx_E} {d : Nat} {rf : List Nat} (x : Int32) (D : zx_D)  : zx_MC l E 16 d [.int x] (rf, D) (fun v S => v = some (.int (fv_areProps x D)) ∧ S = (rf, D)) := by
  refine zx_ofC (K := ck_P_areProperties) rfl (by decide +kernel) rfl ok_P_areProperties (Nat.le_of_ble_eq_true rfl) (fun Zp hr => ?_)
  show Zp (0, [some (.int x)], [], rf, D)
  refine hr.1 1 True _ _ (1, [some (.int x)], [.int x], rf, D) rfl trivial ?_
  refine hr.2.1 _ (x < 0) _ _ rfl (fun h1 => ?_) (fun h1 => ?_)
  · skip
    refine hr.1 1 True _ _ (12, [some (.int x)], [.int 0], rf, D) rfl trivial ?_
    exact hr.2.2.2 _ _ _ rfl (Or.inl rfl) ⟨(by rw [fv_areProps, if_pos h1]), rfl⟩
  · skip
    refine hr.1 2 True _ _ (8, [some (.int x)], [.int 225, .int x], rf, D) rfl trivial ?_
    refine hr.2.1 _ (x < 225) _ _ rfl (fun h8 => ?_) (fun h8 => ?_)
    · skip
      refine hr.1 10 True _ _ (25, [some (.int x)], [.int 3, .int ((zo_rem x 9) + (zo_rem (x / 9) 5))], rf, D) rfl trivial ?_
      refine hr.2.1 _ (3 < (zo_rem x 9) + (zo_rem (x / 9) 5)) _ _ rfl (fun h25 => ?_) (fun h25 => ?_)
      · skip
        refine hr.1 1 True _ _ (33, [some (.int x)], [.int 0], rf, D) rfl trivial ?_
        exact hr.2.2.2 _ _ _ rfl (Or.inl rfl) ⟨(by rw [fv_areProps, if_neg h1, if_pos h8, if_pos h25]), rfl⟩
      · skip
        refine hr.1 2 True _ _ (33, [some (.int x)], [.int 1], rf, D) rfl trivial ?_
        exact hr.2.2.2 _ _ _ rfl (Or.inr rfl) ⟨(by rw [fv_areProps, if_neg h1, if_pos h8, if_neg h25]), rfl⟩
    · skip
      refine hr.1 1 True _ _ (12, [some (.int x)], [.int 0], rf, D) rfl trivial ?_
      exact hr.2.2.2 _ _ _ rfl (Or.inl rfl) ⟨(by rw [fv_areProps, if_neg h1, if_neg h8]), rfl⟩
def fv_rowOf0  (D : zx_D) : Nat := 1
set_option maxRecDepth 100000 in
set_option maxHeartbeats 4000000 in
theorem t_rowOf0 {l : Launch} {E : zx_E} {d : Nat} {rf : List Nat}  (D : zx_D)  : zx_MC l E 13 d [.ref 0, .int 0] (rf, D) (fun v S => v = some (.ref (fv_rowOf0 D)) ∧ S = (rf, D)) := by
  refine zx_ofC (K := ck_P_rowOf) rfl (by decide +kernel) rfl ok_P_rowOf (Nat.le_of_ble_eq_true rfl) (fun Zp hr => ?_)
  show Zp (0, [some (.ref 0), some (.int 0)], [], rf, D)
  refine hr.1 1 True _ _ (1, [some (.ref 0), some (.int 0)], [.int 0], rf, D) rfl trivial ?_
  refine hr.2.1 _ ((0 : Int32) = 0) _ _ rfl (fun _ => ?_) (fun h => absurd (by decide) h)
  refine hr.1 2 True _ _ (15, [some (.ref 0), some (.int 0)], [.ref 1], rf, D) rfl trivial ?_
  exact hr.2.2.2 _ _ _ rfl trivial ⟨(by rw [fv_rowOf0]), rfl⟩
def fv_rowOf1  (D : zx_D) : Nat := 3
set_option maxRecDepth 100000 in
set_option maxHeartbeats 4000000 in
theorem t_rowOf1 {l : Launch} {E : zx_E} {d : Nat} {rf : List Nat}  (D : zx_D)  : zx_MC l E 13 d [.ref 0, .int 1] (rf, D) (fun v S => v = some (.ref (fv_rowOf1 D)) ∧ S = (rf, D)) := by
  refine zx_ofC (K := ck_P_rowOf) rfl (by decide +kernel) rfl ok_P_rowOf (Nat.le_of_ble_eq_true rfl) (fun Zp hr => ?_)
  show Zp (0, [some (.ref 0), some (.int 1)], [], rf, D)
  refine hr.1 1 True _ _ (1, [some (.ref 0), some (.int 1)], [.int 1], rf, D) rfl trivial ?_
  refine hr.2.1 _ ((1 : Int32) = 0) _ _ rfl (fun h => absurd h (by decide)) (fun _ => ?_)
  refine hr.1 3 True _ _ (15, [some (.ref 0), some (.int 1)], [.ref 3], rf, D) rfl trivial ?_
  exact hr.2.2.2 _ _ _ rfl trivial ⟨(by rw [fv_rowOf1]), rfl⟩
def fv_where  (D : zx_D) : Int32 := zg_i D 12 5
set_option maxRecDepth 100000 in
set_option maxHeartbeats 4000000 in
theorem t_where {l : Launch} {E : zx_E} {d : Nat} {rf : List Nat}  (D : zx_D)  : zx_MC l E 7 d [.ref 0] (rf, D) (fun v S => v = some (.int (fv_where D)) ∧ S = (rf, D)) := by
  refine zx_ofC (K := ck_P_where) rfl (by decide +kernel) rfl ok_P_where (Nat.le_of_ble_eq_true rfl) (fun Zp hr => ?_)
  show Zp (0, [some (.ref 0)], [], rf, D)
  refine hr.1 4 True _ _ (10, [some (.ref 0)], [.int (zg_i D 12 5)], rf, D) rfl trivial ?_
  exact hr.2.2.2 _ _ _ rfl trivial ⟨(by rw [fv_where]), rfl⟩
def fv_range  (D : zx_D) : Int64 := zg_l D 5 10
set_option maxRecDepth 100000 in
set_option maxHeartbeats 4000000 in
theorem t_range {l : Launch} {E : zx_E} {d : Nat} {rf : List Nat}  (D : zx_D)  : zx_MC l E 9 d [.ref 0] (rf, D) (fun v S => v = some (.long (fv_range D)) ∧ S = (rf, D)) := by
  refine zx_ofC (K := ck_P_range) rfl (by decide +kernel) rfl ok_P_range (Nat.le_of_ble_eq_true rfl) (fun Zp hr => ?_)
  show Zp (0, [some (.ref 0)], [], rf, D)
  refine hr.1 3 True _ _ (7, [some (.ref 0)], [.long (zg_l D 5 10)], rf, D) rfl trivial ?_
  exact hr.2.2.2 _ _ _ rfl trivial ⟨(by rw [fv_range]), rfl⟩
def fv_code  (D : zx_D) : Int64 := zg_l D 5 11
set_option maxRecDepth 100000 in
set_option maxHeartbeats 4000000 in
theorem t_code {l : Launch} {E : zx_E} {d : Nat} {rf : List Nat}  (D : zx_D)  : zx_MC l E 10 d [.ref 0] (rf, D) (fun v S => v = some (.long (fv_code D)) ∧ S = (rf, D)) := by
  refine zx_ofC (K := ck_P_code) rfl (by decide +kernel) rfl ok_P_code (Nat.le_of_ble_eq_true rfl) (fun Zp hr => ?_)
  show Zp (0, [some (.ref 0)], [], rf, D)
  refine hr.1 3 True _ _ (7, [some (.ref 0)], [.long (zg_l D 5 11)], rf, D) rfl trivial ?_
  exact hr.2.2.2 _ _ _ rfl trivial ⟨(by rw [fv_code]), rfl⟩
def fv_watch (k : Int32) (D : zx_D) : Int32 := if 1 ≤ k then 1 else 0
def fs_watch (k : Int32) (D : zx_D) : zx_D := if 1 ≤ k then zp_i D 5 9 k else D
set_option maxRecDepth 100000 in
set_option maxHeartbeats 4000000 in
theorem t_watch {l : Launch} {E : zx_E} {d : Nat} {rf : List Nat} (k : Int32) (D : zx_D)  : zx_MC l E 8 d [.ref 0, .int k] (rf, D) (fun v S => v = some (.int (fv_watch k D)) ∧ S = (rf, fs_watch k D)) := by
  refine zx_ofC (K := ck_P_watch) rfl (by decide +kernel) rfl ok_P_watch (Nat.le_of_ble_eq_true rfl) (fun Zp hr => ?_)
  show Zp (0, [some (.ref 0), some (.int k)], [], rf, D)
  refine hr.1 2 True _ _ (2, [some (.ref 0), some (.int k)], [.int 1, .int k], rf, D) rfl trivial ?_
  refine hr.2.1 _ (1 ≤ k) _ _ rfl (fun h2 => ?_) (fun h2 => ?_)
  · skip
    refine hr.1 5 True _ _ (16, [some (.ref 0), some (.int k)], [.int 1], rf, zp_i D 5 9 k) rfl trivial ?_
    exact hr.2.2.2 _ _ _ rfl (Or.inr rfl) ⟨(by rw [fv_watch, if_pos h2]), (by rw [fs_watch, if_pos h2])⟩
  · skip
    refine hr.1 1 True _ _ (6, [some (.ref 0), some (.int k)], [.int 0], rf, D) rfl trivial ?_
    exact hr.2.2.2 _ _ _ rfl (Or.inl rfl) ⟨(by rw [fv_watch, if_neg h2]), (by rw [fs_watch, if_neg h2])⟩
def fv_count (w : Int32) (D : zx_D) : Int32 := if w < 0 then -1 else if w < 11 then if ¬ w = 0 then zg_i D 14 (zn w) else zg_i D 5 8 else -1
set_option maxRecDepth 100000 in
set_option maxHeartbeats 4000000 in
theorem t_count {l : Launch} {E : zx_E} {d : Nat} {rf : List Nat} (w : Int32) (D : zx_D)  : zx_MC l E 11 d [.ref 0, .int w] (rf, D) (fun v S => v = some (.int (fv_count w D)) ∧ S = (rf, D)) := by
  refine zx_ofC (K := ck_P_count) rfl (by decide +kernel) rfl ok_P_count (Nat.le_of_ble_eq_true rfl) (fun Zp hr => ?_)
  show Zp (0, [some (.ref 0), some (.int w)], [], rf, D)
  refine hr.1 1 True _ _ (1, [some (.ref 0), some (.int w)], [.int w], rf, D) rfl trivial ?_
  refine hr.2.1 _ (w < 0) _ _ rfl (fun h1 => ?_) (fun h1 => ?_)
  · skip
    refine hr.1 1 True _ _ (11, [some (.ref 0), some (.int w)], [.int (-1)], rf, D) rfl trivial ?_
    exact hr.2.2.2 _ _ _ rfl trivial ⟨(by rw [fv_count, if_pos h1]), rfl⟩
  · skip
    refine hr.1 2 True _ _ (7, [some (.ref 0), some (.int w)], [.int 11, .int w], rf, D) rfl trivial ?_
    refine hr.2.1 _ (w < 11) _ _ rfl (fun h7 => ?_) (fun h7 => ?_)
    · skip
      refine hr.1 1 True _ _ (13, [some (.ref 0), some (.int w)], [.int w], rf, D) rfl trivial ?_
      refine hr.2.1 _ (¬ w = 0) _ _ rfl (fun h13 => ?_) (fun h13 => ?_)
      · skip
        refine hr.1 5 True _ _ (35, [some (.ref 0), some (.int w)], [.int (zg_i D 14 (zn w))], rf, D) rfl ⟨trivial, (zin (Int32.not_lt.mp h1) h7 rfl)⟩ ?_
        exact hr.2.2.2 _ _ _ rfl trivial ⟨(by rw [fv_count, if_neg h1, if_pos h7, if_pos h13]), rfl⟩
      · skip
        refine hr.1 4 True _ _ (35, [some (.ref 0), some (.int w)], [.int (zg_i D 5 8)], rf, D) rfl trivial ?_
        exact hr.2.2.2 _ _ _ rfl trivial ⟨(by rw [fv_count, if_neg h1, if_pos h7, if_neg h13]), rfl⟩
    · skip
      refine hr.1 1 True _ _ (11, [some (.ref 0), some (.int w)], [.int (-1)], rf, D) rfl trivial ?_
      exact hr.2.2.2 _ _ _ rfl trivial ⟨(by rw [fv_count, if_neg h1, if_neg h7]), rfl⟩
def fv_cut0 (n : Int32) (D : zx_D) : Int32 := if n < 0 then -1 else if n ≤ zg_i D 1 1 then (zg_i D 1 1) - n else -1
def fs_cut0 (n : Int32) (D : zx_D) : zx_D := if n < 0 then D else if n ≤ zg_i D 1 1 then zp_i D 1 1 n else D
set_option maxRecDepth 100000 in
set_option maxHeartbeats 4000000 in
theorem t_cut0 {l : Launch} {E : zx_E} {d : Nat} {rf : List Nat} (n : Int32) (D : zx_D)  : zx_MC l E 2 (d + 1) [.ref 0, .int n, .int 0] (rf, D) (fun v S => v = some (.int (fv_cut0 n D)) ∧ S = (rf, fs_cut0 n D)) := by
  refine zx_ofC (K := ck_P_cut) rfl (by decide +kernel) rfl ok_P_cut (Nat.le_of_ble_eq_true rfl) (fun Zp hr => ?_)
  show Zp (0, [some (.ref 0), some (.int n), some (.int 0), none, none], [], rf, D)
  refine hr.1 2 True _ _ (2, [some (.ref 0), some (.int n), some (.int 0), none, none], [.int 0, .ref 0], rf, D) rfl trivial ?_
  refine hr.2.2.1 _ _ _ _ _ d rfl (by omega) (t_rowOf0 D) (fun v S hq => ?_)
  obtain ⟨rfl, rfl⟩ := hq
  refine hr.1 2 True _ _ (7, [some (.ref 0), some (.int n), some (.int 0), some (.ref 1), none], [.int n], rf, D) rfl trivial ?_
  refine hr.2.1 _ (n < 0) _ _ rfl (fun h7 => ?_) (fun h7 => ?_)
  · skip
    refine hr.1 1 True _ _ (19, [some (.ref 0), some (.int n), some (.int 0), some (.ref 1), none], [.int (-1)], rf, D) rfl trivial ?_
    exact hr.2.2.2 _ _ _ rfl trivial ⟨(by rw [fv_cut0, if_pos h7]), (by rw [fs_cut0, if_pos h7])⟩
  · skip
    refine hr.1 3 True _ _ (15, [some (.ref 0), some (.int n), some (.int 0), some (.ref 1), none], [.int (zg_i D 1 1), .int n], rf, D) rfl trivial ?_
    refine hr.2.1 _ (n ≤ zg_i D 1 1) _ _ rfl (fun h15 => ?_) (fun h15 => ?_)
    · skip
      refine hr.1 9 True _ _ (35, [some (.ref 0), some (.int n), some (.int 0), some (.ref 1), some (.int ((zg_i D 1 1) - n))], [.int ((zg_i D 1 1) - n)], rf, zp_i D 1 1 n) rfl trivial ?_
      exact hr.2.2.2 _ _ _ rfl trivial ⟨(by rw [fv_cut0, if_neg h7, if_pos h15]), (by rw [fs_cut0, if_neg h7, if_pos h15])⟩
    · skip
      refine hr.1 1 True _ _ (19, [some (.ref 0), some (.int n), some (.int 0), some (.ref 1), none], [.int (-1)], rf, D) rfl trivial ?_
      exact hr.2.2.2 _ _ _ rfl trivial ⟨(by rw [fv_cut0, if_neg h7, if_neg h15]), (by rw [fs_cut0, if_neg h7, if_neg h15])⟩
def fv_at0 (i : Int32) (D : zx_D) : Int32 := if i < 0 then -1 else if zg_i D 1 1 ≤ i then -1 else zg_i D 2 (zn i)
set_option maxRecDepth 100000 in
set_option maxHeartbeats 4000000 in
theorem t_at0 {l : Launch} {E : zx_E} {d : Nat} {rf : List Nat} (i : Int32) (D : zx_D) (hin : 0 ≤ i → i < zg_i D 1 1 → vp_in i 400) : zx_MC l E 4 (d + 1) [.ref 0, .int i, .int 0] (rf, D) (fun v S => v = some (.int (fv_at0 i D)) ∧ S = (rf, D)) := by
  refine zx_ofC (K := ck_P_at) rfl (by decide +kernel) rfl ok_P_at (Nat.le_of_ble_eq_true rfl) (fun Zp hr => ?_)
  show Zp (0, [some (.ref 0), some (.int i), some (.int 0)], [], rf, D)
  refine hr.1 2 True _ _ (2, [some (.ref 0), some (.int i), some (.int 0)], [.int 0, .ref 0], rf, D) rfl trivial ?_
  refine hr.2.2.1 _ _ _ _ _ d rfl (by omega) (t_rowOf0 D) (fun v S hq => ?_)
  obtain ⟨rfl, rfl⟩ := hq
  refine hr.1 1 True _ _ (6, [some (.ref 0), some (.int i), some (.int 0)], [.int i, .ref 1], rf, D) rfl trivial ?_
  refine hr.2.2.1 _ _ _ _ _ d rfl (by omega) (t_byteAt_1 i D hin) (fun v S hq => ?_)
  obtain ⟨rfl, rfl⟩ := hq
  exact hr.2.2.2 _ _ _ rfl trivial ⟨(by rw [fv_at0]), rfl⟩
def fv_cut1 (n : Int32) (D : zx_D) : Int32 := if n < 0 then -1 else if n ≤ zg_i D 3 1 then (zg_i D 3 1) - n else -1
def fs_cut1 (n : Int32) (D : zx_D) : zx_D := if n < 0 then D else if n ≤ zg_i D 3 1 then zp_i D 3 1 n else D
set_option maxRecDepth 100000 in
set_option maxHeartbeats 4000000 in
theorem t_cut1 {l : Launch} {E : zx_E} {d : Nat} {rf : List Nat} (n : Int32) (D : zx_D)  : zx_MC l E 2 (d + 1) [.ref 0, .int n, .int 1] (rf, D) (fun v S => v = some (.int (fv_cut1 n D)) ∧ S = (rf, fs_cut1 n D)) := by
  refine zx_ofC (K := ck_P_cut) rfl (by decide +kernel) rfl ok_P_cut (Nat.le_of_ble_eq_true rfl) (fun Zp hr => ?_)
  show Zp (0, [some (.ref 0), some (.int n), some (.int 1), none, none], [], rf, D)
  refine hr.1 2 True _ _ (2, [some (.ref 0), some (.int n), some (.int 1), none, none], [.int 1, .ref 0], rf, D) rfl trivial ?_
  refine hr.2.2.1 _ _ _ _ _ d rfl (by omega) (t_rowOf1 D) (fun v S hq => ?_)
  obtain ⟨rfl, rfl⟩ := hq
  refine hr.1 2 True _ _ (7, [some (.ref 0), some (.int n), some (.int 1), some (.ref 3), none], [.int n], rf, D) rfl trivial ?_
  refine hr.2.1 _ (n < 0) _ _ rfl (fun h7 => ?_) (fun h7 => ?_)
  · skip
    refine hr.1 1 True _ _ (19, [some (.ref 0), some (.int n), some (.int 1), some (.ref 3), none], [.int (-1)], rf, D) rfl trivial ?_
    exact hr.2.2.2 _ _ _ rfl trivial ⟨(by rw [fv_cut1, if_pos h7]), (by rw [fs_cut1, if_pos h7])⟩
  · skip
    refine hr.1 3 True _ _ (15, [some (.ref 0), some (.int n), some (.int 1), some (.ref 3), none], [.int (zg_i D 3 1), .int n], rf, D) rfl trivial ?_
    refine hr.2.1 _ (n ≤ zg_i D 3 1) _ _ rfl (fun h15 => ?_) (fun h15 => ?_)
    · skip
      refine hr.1 9 True _ _ (35, [some (.ref 0), some (.int n), some (.int 1), some (.ref 3), some (.int ((zg_i D 3 1) - n))], [.int ((zg_i D 3 1) - n)], rf, zp_i D 3 1 n) rfl trivial ?_
      exact hr.2.2.2 _ _ _ rfl trivial ⟨(by rw [fv_cut1, if_neg h7, if_pos h15]), (by rw [fs_cut1, if_neg h7, if_pos h15])⟩
    · skip
      refine hr.1 1 True _ _ (19, [some (.ref 0), some (.int n), some (.int 1), some (.ref 3), none], [.int (-1)], rf, D) rfl trivial ?_
      exact hr.2.2.2 _ _ _ rfl trivial ⟨(by rw [fv_cut1, if_neg h7, if_neg h15]), (by rw [fs_cut1, if_neg h7, if_neg h15])⟩
def fv_at1 (i : Int32) (D : zx_D) : Int32 := if i < 0 then -1 else if zg_i D 3 1 ≤ i then -1 else zg_i D 4 (zn i)
set_option maxRecDepth 100000 in
set_option maxHeartbeats 4000000 in
theorem t_at1 {l : Launch} {E : zx_E} {d : Nat} {rf : List Nat} (i : Int32) (D : zx_D) (hin : 0 ≤ i → i < zg_i D 3 1 → vp_in i 640) : zx_MC l E 4 (d + 1) [.ref 0, .int i, .int 1] (rf, D) (fun v S => v = some (.int (fv_at1 i D)) ∧ S = (rf, D)) := by
  refine zx_ofC (K := ck_P_at) rfl (by decide +kernel) rfl ok_P_at (Nat.le_of_ble_eq_true rfl) (fun Zp hr => ?_)
  show Zp (0, [some (.ref 0), some (.int i), some (.int 1)], [], rf, D)
  refine hr.1 2 True _ _ (2, [some (.ref 0), some (.int i), some (.int 1)], [.int 1, .ref 0], rf, D) rfl trivial ?_
  refine hr.2.2.1 _ _ _ _ _ d rfl (by omega) (t_rowOf1 D) (fun v S hq => ?_)
  obtain ⟨rfl, rfl⟩ := hq
  refine hr.1 1 True _ _ (6, [some (.ref 0), some (.int i), some (.int 1)], [.int i, .ref 3], rf, D) rfl trivial ?_
  refine hr.2.2.1 _ _ _ _ _ d rfl (by omega) (t_byteAt_3 i D hin) (fun v S hq => ?_)
  obtain ⟨rfl, rfl⟩ := hq
  exact hr.2.2.2 _ _ _ rfl trivial ⟨(by rw [fv_at1]), rfl⟩
