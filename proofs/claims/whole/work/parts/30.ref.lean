/-! The reference: small methods -/
def fv_rmagic (k : Int32) (D : zx_D) : Int32 := if ¬ k = 0 then if ¬ k = 1 then if ¬ k = 2 then if ¬ k = 3 then if ¬ k = 4 then 0 else 90 else 88 else 122 else 55 else 253
set_option maxRecDepth 100000 in
set_option maxHeartbeats 4000000 in
theorem t_rmagic {l : Launch} {E : zx_E} {d : Nat} (k : Int32) (D : zx_D)  : zx_MR l E 119 d [.int k] ([], D) (fun v S => v = some (.int (fv_rmagic k D)) ∧ S = ([], D)) := by
  refine zx_ofR (K := ck_R_magic) rfl (by decide +kernel) rfl ok_R_magic (Nat.le_of_ble_eq_true rfl) (fun Zp hr => ?_)
  show Zp (0, [some (.int k)], [], [], D)
  refine hr.1 1 True _ _ (1, [some (.int k)], [.int k], [], D) rfl trivial ?_
  refine hr.2.1 _ (¬ k = 0) _ _ rfl (fun h1 => ?_) (fun h1 => ?_)
  · skip
    refine hr.1 2 True _ _ (12, [some (.int k)], [.int 1, .int k], [], D) rfl trivial ?_
    refine hr.2.1 _ (¬ k = 1) _ _ rfl (fun h12 => ?_) (fun h12 => ?_)
    · skip
      refine hr.1 2 True _ _ (22, [some (.int k)], [.int 2, .int k], [], D) rfl trivial ?_
      refine hr.2.1 _ (¬ k = 2) _ _ rfl (fun h22 => ?_) (fun h22 => ?_)
      · skip
        refine hr.1 2 True _ _ (32, [some (.int k)], [.int 3, .int k], [], D) rfl trivial ?_
        refine hr.2.1 _ (¬ k = 3) _ _ rfl (fun h32 => ?_) (fun h32 => ?_)
        · skip
          refine hr.1 2 True _ _ (42, [some (.int k)], [.int 4, .int k], [], D) rfl trivial ?_
          refine hr.2.1 _ (¬ k = 4) _ _ rfl (fun h42 => ?_) (fun h42 => ?_)
          · skip
            refine hr.1 1 True _ _ (51, [some (.int k)], [.int 0], [], D) rfl trivial ?_
            exact hr.2.2.2 _ _ _ rfl trivial ⟨(by rw [fv_rmagic, if_pos h1, if_pos h12, if_pos h22, if_pos h32, if_pos h42]), rfl⟩
          · skip
            refine hr.1 2 True _ _ (51, [some (.int k)], [.int 90], [], D) rfl trivial ?_
            exact hr.2.2.2 _ _ _ rfl trivial ⟨(by rw [fv_rmagic, if_pos h1, if_pos h12, if_pos h22, if_pos h32, if_neg h42]), rfl⟩
        · skip
          refine hr.1 2 True _ _ (51, [some (.int k)], [.int 88], [], D) rfl trivial ?_
          exact hr.2.2.2 _ _ _ rfl trivial ⟨(by rw [fv_rmagic, if_pos h1, if_pos h12, if_pos h22, if_neg h32]), rfl⟩
      · skip
        refine hr.1 2 True _ _ (51, [some (.int k)], [.int 122], [], D) rfl trivial ?_
        exact hr.2.2.2 _ _ _ rfl trivial ⟨(by rw [fv_rmagic, if_pos h1, if_pos h12, if_neg h22]), rfl⟩
    · skip
      refine hr.1 2 True _ _ (51, [some (.int k)], [.int 55], [], D) rfl trivial ?_
      exact hr.2.2.2 _ _ _ rfl trivial ⟨(by rw [fv_rmagic, if_pos h1, if_neg h12]), rfl⟩
  · skip
    refine hr.1 2 True _ _ (51, [some (.int k)], [.int 253], [], D) rfl trivial ?_
    exact hr.2.2.2 _ _ _ rfl trivial ⟨(by rw [fv_rmagic, if_neg h1]), rfl⟩
def fv_risSort (x : Int32) (D : zx_D) : Int32 := if x = 0 then 1 else if x = 1 then 1 else if ¬ x = 4 then 0 else 1
set_option maxRecDepth 100000 in
set_option maxHeartbeats 4000000 in
theorem t_risSort {l : Launch} {E : zx_E} {d : Nat} (x : Int32) (D : zx_D)  : zx_MR l E 120 d [.int x] ([], D) (fun v S => v = some (.int (fv_risSort x D)) ∧ S = ([], D)) := by
  refine zx_ofR (K := ck_R_isSort) rfl (by decide +kernel) rfl ok_R_isSort (Nat.le_of_ble_eq_true rfl) (fun Zp hr => ?_)
  show Zp (0, [some (.int x)], [], [], D)
  refine hr.1 1 True _ _ (1, [some (.int x)], [.int x], [], D) rfl trivial ?_
  refine hr.2.1 _ (x = 0) _ _ rfl (fun h1 => ?_) (fun h1 => ?_)
  · skip
    refine hr.1 2 True _ _ (19, [some (.int x)], [.int 1], [], D) rfl trivial ?_
    exact hr.2.2.2 _ _ _ rfl (Or.inr rfl) ⟨(by rw [fv_risSort, if_pos h1]), rfl⟩
  · skip
    refine hr.1 2 True _ _ (6, [some (.int x)], [.int 1, .int x], [], D) rfl trivial ?_
    refine hr.2.1 _ (x = 1) _ _ rfl (fun h6 => ?_) (fun h6 => ?_)
    · skip
      refine hr.1 2 True _ _ (19, [some (.int x)], [.int 1], [], D) rfl trivial ?_
      exact hr.2.2.2 _ _ _ rfl (Or.inr rfl) ⟨(by rw [fv_risSort, if_neg h1, if_pos h6]), rfl⟩
    · skip
      refine hr.1 2 True _ _ (11, [some (.int x)], [.int 4, .int x], [], D) rfl trivial ?_
      refine hr.2.1 _ (¬ x = 4) _ _ rfl (fun h11 => ?_) (fun h11 => ?_)
      · skip
        refine hr.1 1 True _ _ (19, [some (.int x)], [.int 0], [], D) rfl trivial ?_
        exact hr.2.2.2 _ _ _ rfl (Or.inl rfl) ⟨(by rw [fv_risSort, if_neg h1, if_neg h6, if_pos h11]), rfl⟩
      · skip
        refine hr.1 2 True _ _ (19, [some (.int x)], [.int 1], [], D) rfl trivial ?_
        exact hr.2.2.2 _ _ _ rfl (Or.inr rfl) ⟨(by rw [fv_risSort, if_neg h1, if_neg h6, if_neg h11]), rfl⟩
def fv_risProps (x : Int32) (D : zx_D) : Int32 := if x < 0 then 0 else if 225 ≤ x then 0 else if 4 ≤ (zo_rem x 9) + (zo_rem (x / 9) 5) then 0 else 1
set_option maxRecDepth 100000 in
set_option maxHeartbeats 4000000 in
theorem t_risProps {l : Launch} {E : zx_E} {d : Nat} (x : Int32) (D : zx_D)  : zx_MR l E 126 d [.int x] ([], D) (fun v S => v = some (.int (fv_risProps x D)) ∧ S = ([], D)) := by
  refine zx_ofR (K := ck_R_isProperties) rfl (by decide +kernel) rfl ok_R_isProperties (Nat.le_of_ble_eq_true rfl) (fun Zp hr => ?_)
  show Zp (0, [some (.int x)], [], [], D)
  refine hr.1 1 True _ _ (1, [some (.int x)], [.int x], [], D) rfl trivial ?_
  refine hr.2.1 _ (x < 0) _ _ rfl (fun h1 => ?_) (fun h1 => ?_)
  · skip
    refine hr.1 1 True _ _ (31, [some (.int x)], [.int 0], [], D) rfl trivial ?_
    exact hr.2.2.2 _ _ _ rfl (Or.inl rfl) ⟨(by rw [fv_risProps, if_pos h1]), rfl⟩
  · skip
    refine hr.1 2 True _ _ (8, [some (.int x)], [.int 225, .int x], [], D) rfl trivial ?_
    refine hr.2.1 _ (225 ≤ x) _ _ rfl (fun h8 => ?_) (fun h8 => ?_)
    · skip
      refine hr.1 1 True _ _ (31, [some (.int x)], [.int 0], [], D) rfl trivial ?_
      exact hr.2.2.2 _ _ _ rfl (Or.inl rfl) ⟨(by rw [fv_risProps, if_neg h1, if_pos h8]), rfl⟩
    · skip
      refine hr.1 10 True _ _ (23, [some (.int x)], [.int 4, .int ((zo_rem x 9) + (zo_rem (x / 9) 5))], [], D) rfl trivial ?_
      refine hr.2.1 _ (4 ≤ (zo_rem x 9) + (zo_rem (x / 9) 5)) _ _ rfl (fun h23 => ?_) (fun h23 => ?_)
      · skip
        refine hr.1 1 True _ _ (31, [some (.int x)], [.int 0], [], D) rfl trivial ?_
        exact hr.2.2.2 _ _ _ rfl (Or.inl rfl) ⟨(by rw [fv_risProps, if_neg h1, if_neg h8, if_pos h23]), rfl⟩
      · skip
        refine hr.1 2 True _ _ (31, [some (.int x)], [.int 1], [], D) rfl trivial ?_
        exact hr.2.2.2 _ _ _ rfl (Or.inr rfl) ⟨(by rw [fv_risProps, if_neg h1, if_neg h8, if_neg h23]), rfl⟩
def fv_rafter (x : Int32) (D : zx_D) : Int32 := if 4 ≤ x then if 10 ≤ x then x - 6 else x - 3 else 0
set_option maxRecDepth 100000 in
set_option maxHeartbeats 4000000 in
theorem t_rafter {l : Launch} {E : zx_E} {d : Nat} (x : Int32) (D : zx_D)  : zx_MR l E 156 d [.int x] ([], D) (fun v S => v = some (.int (fv_rafter x D)) ∧ S = ([], D)) := by
  refine zx_ofR (K := ck_R_after) rfl (by decide +kernel) rfl ok_R_after (Nat.le_of_ble_eq_true rfl) (fun Zp hr => ?_)
  show Zp (0, [some (.int x)], [], [], D)
  refine hr.1 2 True _ _ (2, [some (.int x)], [.int 4, .int x], [], D) rfl trivial ?_
  refine hr.2.1 _ (4 ≤ x) _ _ rfl (fun h2 => ?_) (fun h2 => ?_)
  · skip
    refine hr.1 2 True _ _ (12, [some (.int x)], [.int 10, .int x], [], D) rfl trivial ?_
    refine hr.2.1 _ (10 ≤ x) _ _ rfl (fun h12 => ?_) (fun h12 => ?_)
    · skip
      refine hr.1 3 True _ _ (25, [some (.int x)], [.int (x - 6)], [], D) rfl trivial ?_
      exact hr.2.2.2 _ _ _ rfl trivial ⟨(by rw [fv_rafter, if_pos h2, if_pos h12]), rfl⟩
    · skip
      refine hr.1 4 True _ _ (25, [some (.int x)], [.int (x - 3)], [], D) rfl trivial ?_
      exact hr.2.2.2 _ _ _ rfl trivial ⟨(by rw [fv_rafter, if_pos h2, if_neg h12]), rfl⟩
  · skip
    refine hr.1 2 True _ _ (25, [some (.int x)], [.int 0], [], D) rfl trivial ?_
    exact hr.2.2.2 _ _ _ rfl trivial ⟨(by rw [fv_rafter, if_neg h2]), rfl⟩
def fs_rfail (w p : Int32) (D : zx_D) : zx_D := if ¬ zg_i D 0 29 = 0 then zp_i (zp_i D 0 30 (zg_i D 0 30)) 0 29 (zg_i D 0 29) else zp_i (zp_i D 0 30 p) 0 29 w
set_option maxRecDepth 100000 in
set_option maxHeartbeats 4000000 in
theorem t_rfail {l : Launch} {E : zx_E} {d : Nat} (w p : Int32) (D : zx_D)  : zx_MR l E 113 d [.ref 0, .int w, .int p] ([], D) (fun v S => v = none ∧ S = ([], fs_rfail w p D)) := by
  refine zx_ofR (K := ck_R_fail) rfl (by decide +kernel) rfl ok_R_fail (Nat.le_of_ble_eq_true rfl) (fun Zp hr => ?_)
  show Zp (0, [some (.ref 0), some (.int w), some (.int p)], [], [], D)
  refine hr.1 3 True _ _ (5, [some (.ref 0), some (.int w), some (.int p)], [.int (zg_i D 0 29), .ref 0], [], D) rfl trivial ?_
  refine hr.2.1 _ (¬ zg_i D 0 29 = 0) _ _ rfl (fun h5 => ?_) (fun h5 => ?_)
  · skip
    refine hr.1 6 True _ _ (24, [some (.ref 0), some (.int w), some (.int p)], [.int (zg_i D 0 29), .ref 0], [], zp_i D 0 30 (zg_i D 0 30)) rfl trivial ?_
    refine hr.2.1 _ (¬ zg_i D 0 29 = 0) _ _ rfl (fun _ => ?_) (fun h => absurd h5 h)
    refine hr.1 3 True _ _ (38, [some (.ref 0), some (.int w), some (.int p)], [], [], zp_i (zp_i D 0 30 (zg_i D 0 30)) 0 29 (zg_i D 0 29)) rfl trivial ?_
    exact hr.2.2.2 _ _ _ rfl trivial ⟨rfl, (by rw [fs_rfail, if_pos h5])⟩
  · skip
    refine hr.1 6 True _ _ (24, [some (.ref 0), some (.int w), some (.int p)], [.int (zg_i D 0 29), .ref 0], [], zp_i D 0 30 p) rfl trivial ?_
    refine hr.2.1 _ (¬ zg_i D 0 29 = 0) _ _ rfl (fun h => absurd h h5) (fun _ => ?_)
    refine hr.1 3 True _ _ (38, [some (.ref 0), some (.int w), some (.int p)], [], [], zp_i (zp_i D 0 30 p) 0 29 w) rfl trivial ?_
    exact hr.2.2.2 _ _ _ rfl trivial ⟨rfl, (by rw [fs_rfail, if_neg h5])⟩
def fv_rhas (n : Int32) (D : zx_D) : Int32 := if n ≤ (zg_i D 0 3) - (zg_i D 0 28) then if ¬ zg_i D 0 29 = 0 then 0 else 1 else if ¬ zg_i (fs_rfail (-2) (zg_i D 0 28) D) 0 29 = 0 then 0 else 1
def fs_rhas (n : Int32) (D : zx_D) : zx_D := if n ≤ (zg_i D 0 3) - (zg_i D 0 28) then if ¬ zg_i D 0 29 = 0 then D else D else if ¬ zg_i (fs_rfail (-2) (zg_i D 0 28) D) 0 29 = 0 then fs_rfail (-2) (zg_i D 0 28) D else fs_rfail (-2) (zg_i D 0 28) D
set_option maxRecDepth 100000 in
set_option maxHeartbeats 4000000 in
theorem t_rhas {l : Launch} {E : zx_E} {d : Nat} (n : Int32) (D : zx_D)  : zx_MR l E 114 (d + 1) [.ref 0, .int n] ([], D) (fun v S => v = some (.int (fv_rhas n D)) ∧ S = ([], fs_rhas n D)) := by
  refine zx_ofR (K := ck_R_has) rfl (by decide +kernel) rfl ok_R_has (Nat.le_of_ble_eq_true rfl) (fun Zp hr => ?_)
  show Zp (0, [some (.ref 0), some (.int n)], [], [], D)
  refine hr.1 6 True _ _ (10, [some (.ref 0), some (.int n)], [.int ((zg_i D 0 3) - (zg_i D 0 28)), .int n], [], D) rfl trivial ?_
  refine hr.2.1 _ (n ≤ (zg_i D 0 3) - (zg_i D 0 28)) _ _ rfl (fun h10 => ?_) (fun h10 => ?_)
  · skip
    refine hr.1 2 True _ _ (27, [some (.ref 0), some (.int n)], [.int (zg_i D 0 29)], [], D) rfl trivial ?_
    refine hr.2.1 _ (¬ zg_i D 0 29 = 0) _ _ rfl (fun h27 => ?_) (fun h27 => ?_)
    · skip
      refine hr.1 1 True _ _ (35, [some (.ref 0), some (.int n)], [.int 0], [], D) rfl trivial ?_
      exact hr.2.2.2 _ _ _ rfl (Or.inl rfl) ⟨(by rw [fv_rhas, if_pos h10, if_pos h27]), (by rw [fs_rhas, if_pos h10, if_pos h27])⟩
    · skip
      refine hr.1 2 True _ _ (35, [some (.ref 0), some (.int n)], [.int 1], [], D) rfl trivial ?_
      exact hr.2.2.2 _ _ _ rfl (Or.inr rfl) ⟨(by rw [fv_rhas, if_pos h10, if_neg h27]), (by rw [fs_rhas, if_pos h10, if_neg h27])⟩
  · skip
    refine hr.1 4 True _ _ (20, [some (.ref 0), some (.int n)], [.int (zg_i D 0 28), .int (-2), .ref 0], [], D) rfl trivial ?_
    refine hr.2.2.1 _ _ _ _ _ d rfl (by omega) (t_rfail (-2) (zg_i D 0 28) D) (fun v S hq => ?_)
    obtain ⟨rfl, rfl⟩ := hq
    refine hr.1 2 True _ _ (27, [some (.ref 0), some (.int n)], [.int (zg_i (fs_rfail (-2) (zg_i D 0 28) D) 0 29)], [], fs_rfail (-2) (zg_i D 0 28) D) rfl trivial ?_
    refine hr.2.1 _ (¬ zg_i (fs_rfail (-2) (zg_i D 0 28) D) 0 29 = 0) _ _ rfl (fun h27 => ?_) (fun h27 => ?_)
    · skip
      refine hr.1 1 True _ _ (35, [some (.ref 0), some (.int n)], [.int 0], [], fs_rfail (-2) (zg_i D 0 28) D) rfl trivial ?_
      exact hr.2.2.2 _ _ _ rfl (Or.inl rfl) ⟨(by rw [fv_rhas, if_neg h10, if_pos h27]), (by rw [fs_rhas, if_neg h10, if_pos h27])⟩
    · skip
      refine hr.1 2 True _ _ (35, [some (.ref 0), some (.int n)], [.int 1], [], fs_rfail (-2) (zg_i D 0 28) D) rfl trivial ?_
      exact hr.2.2.2 _ _ _ rfl (Or.inr rfl) ⟨(by rw [fv_rhas, if_neg h10, if_neg h27]), (by rw [fs_rhas, if_neg h10, if_neg h27])⟩
def fv_rwhere  (D : zx_D) : Int32 := zg_i D 0 30
set_option maxRecDepth 100000 in
set_option maxHeartbeats 4000000 in
theorem t_rwhere {l : Launch} {E : zx_E} {d : Nat}  (D : zx_D)  : zx_MR l E 133 d [.ref 0] ([], D) (fun v S => v = some (.int (fv_rwhere D)) ∧ S = ([], D)) := by
  refine zx_ofR (K := ck_R_where) rfl (by decide +kernel) rfl ok_R_where (Nat.le_of_ble_eq_true rfl) (fun Zp hr => ?_)
  show Zp (0, [some (.ref 0)], [], [], D)
  refine hr.1 2 True _ _ (4, [some (.ref 0)], [.int (zg_i D 0 30)], [], D) rfl trivial ?_
  exact hr.2.2.2 _ _ _ rfl trivial ⟨(by rw [fv_rwhere]), rfl⟩
def fv_rrange  (D : zx_D) : Int64 := zg_l D 0 39
set_option maxRecDepth 100000 in
set_option maxHeartbeats 4000000 in
theorem t_rrange {l : Launch} {E : zx_E} {d : Nat}  (D : zx_D)  : zx_MR l E 135 d [.ref 0] ([], D) (fun v S => v = some (.long (fv_rrange D)) ∧ S = ([], D)) := by
  refine zx_ofR (K := ck_R_range) rfl (by decide +kernel) rfl ok_R_range (Nat.le_of_ble_eq_true rfl) (fun Zp hr => ?_)
  show Zp (0, [some (.ref 0)], [], [], D)
  refine hr.1 2 True _ _ (4, [some (.ref 0)], [.long (zg_l D 0 39)], [], D) rfl trivial ?_
  exact hr.2.2.2 _ _ _ rfl trivial ⟨(by rw [fv_rrange]), rfl⟩
def fv_rcode  (D : zx_D) : Int64 := zg_l D 0 40
set_option maxRecDepth 100000 in
set_option maxHeartbeats 4000000 in
theorem t_rcode {l : Launch} {E : zx_E} {d : Nat}  (D : zx_D)  : zx_MR l E 136 d [.ref 0] ([], D) (fun v S => v = some (.long (fv_rcode D)) ∧ S = ([], D)) := by
  refine zx_ofR (K := ck_R_code) rfl (by decide +kernel) rfl ok_R_code (Nat.le_of_ble_eq_true rfl) (fun Zp hr => ?_)
  show Zp (0, [some (.ref 0)], [], [], D)
  refine hr.1 2 True _ _ (4, [some (.ref 0)], [.long (zg_l D 0 40)], [], D) rfl trivial ?_
  exact hr.2.2.2 _ _ _ rfl trivial ⟨(by rw [fv_rcode]), rfl⟩
def fv_rwatch (k : Int32) (D : zx_D) : Int32 := if 1 ≤ k then if k < 1 then 0 else 1 else if k < 1 then 0 else 1
def fs_rwatch (k : Int32) (D : zx_D) : zx_D := if 1 ≤ k then if k < 1 then zp_i D 0 37 k else zp_i D 0 37 k else if k < 1 then zp_i D 0 37 (zg_i D 0 37) else zp_i D 0 37 (zg_i D 0 37)
set_option maxRecDepth 100000 in
set_option maxHeartbeats 4000000 in
theorem t_rwatch {l : Launch} {E : zx_E} {d : Nat} (k : Int32) (D : zx_D)  : zx_MR l E 134 d [.ref 0, .int k] ([], D) (fun v S => v = some (.int (fv_rwatch k D)) ∧ S = ([], fs_rwatch k D)) := by
  refine zx_ofR (K := ck_R_watch) rfl (by decide +kernel) rfl ok_R_watch (Nat.le_of_ble_eq_true rfl) (fun Zp hr => ?_)
  show Zp (0, [some (.ref 0), some (.int k)], [], [], D)
  refine hr.1 3 True _ _ (3, [some (.ref 0), some (.int k)], [.int 1, .int k, .ref 0], [], D) rfl trivial ?_
  refine hr.2.1 _ (1 ≤ k) _ _ rfl (fun h3 => ?_) (fun h3 => ?_)
  · skip
    refine hr.1 4 True _ _ (19, [some (.ref 0), some (.int k)], [.int 1, .int k], [], zp_i D 0 37 k) rfl trivial ?_
    refine hr.2.1 _ (k < 1) _ _ rfl (fun h19 => ?_) (fun h19 => ?_)
    · skip
      refine hr.1 1 True _ _ (27, [some (.ref 0), some (.int k)], [.int 0], [], zp_i D 0 37 k) rfl trivial ?_
      exact hr.2.2.2 _ _ _ rfl (Or.inl rfl) ⟨(by rw [fv_rwatch, if_pos h3, if_pos h19]), (by rw [fs_rwatch, if_pos h3, if_pos h19])⟩
    · skip
      refine hr.1 2 True _ _ (27, [some (.ref 0), some (.int k)], [.int 1], [], zp_i D 0 37 k) rfl trivial ?_
      exact hr.2.2.2 _ _ _ rfl (Or.inr rfl) ⟨(by rw [fv_rwatch, if_pos h3, if_neg h19]), (by rw [fs_rwatch, if_pos h3, if_neg h19])⟩
  · skip
    refine hr.1 6 True _ _ (19, [some (.ref 0), some (.int k)], [.int 1, .int k], [], zp_i D 0 37 (zg_i D 0 37)) rfl trivial ?_
    refine hr.2.1 _ (k < 1) _ _ rfl (fun h19 => ?_) (fun h19 => ?_)
    · skip
      refine hr.1 1 True _ _ (27, [some (.ref 0), some (.int k)], [.int 0], [], zp_i D 0 37 (zg_i D 0 37)) rfl trivial ?_
      exact hr.2.2.2 _ _ _ rfl (Or.inl rfl) ⟨(by rw [fv_rwatch, if_neg h3, if_pos h19]), (by rw [fs_rwatch, if_neg h3, if_pos h19])⟩
    · skip
      refine hr.1 2 True _ _ (27, [some (.ref 0), some (.int k)], [.int 1], [], zp_i D 0 37 (zg_i D 0 37)) rfl trivial ?_
      exact hr.2.2.2 _ _ _ rfl (Or.inr rfl) ⟨(by rw [fv_rwatch, if_neg h3, if_neg h19]), (by rw [fs_rwatch, if_neg h3, if_neg h19])⟩
def fv_rcount (w : Int32) (D : zx_D) : Int32 := if w < 0 then -1 else if w ≤ 10 then zg_i D 9 (zn w) else -1
set_option maxRecDepth 100000 in
set_option maxHeartbeats 4000000 in
theorem t_rcount {l : Launch} {E : zx_E} {d : Nat} (w : Int32) (D : zx_D)  : zx_MR l E 137 d [.ref 0, .int w] ([], D) (fun v S => v = some (.int (fv_rcount w D)) ∧ S = ([], D)) := by
  refine zx_ofR (K := ck_R_count) rfl (by decide +kernel) rfl ok_R_count (Nat.le_of_ble_eq_true rfl) (fun Zp hr => ?_)
  show Zp (0, [some (.ref 0), some (.int w)], [], [], D)
  refine hr.1 1 True _ _ (1, [some (.ref 0), some (.int w)], [.int w], [], D) rfl trivial ?_
  refine hr.2.1 _ (w < 0) _ _ rfl (fun h1 => ?_) (fun h1 => ?_)
  · skip
    refine hr.1 2 True _ _ (20, [some (.ref 0), some (.int w)], [.int (-1)], [], D) rfl trivial ?_
    exact hr.2.2.2 _ _ _ rfl trivial ⟨(by rw [fv_rcount, if_pos h1]), rfl⟩
  · skip
    refine hr.1 2 True _ _ (7, [some (.ref 0), some (.int w)], [.int 10, .int w], [], D) rfl trivial ?_
    refine hr.2.1 _ (w ≤ 10) _ _ rfl (fun h7 => ?_) (fun h7 => ?_)
    · skip
      refine hr.1 4 True _ _ (20, [some (.ref 0), some (.int w)], [.int (zg_i D 9 (zn w))], [], D) rfl ⟨trivial, (zin (Int32.not_lt.mp h1) (Int32.lt_of_le_of_lt h7 (by decide : (10 : Int32) < 11)) rfl)⟩ ?_
      exact hr.2.2.2 _ _ _ rfl trivial ⟨(by rw [fv_rcount, if_neg h1, if_pos h7]), rfl⟩
    · skip
      refine hr.1 2 True _ _ (20, [some (.ref 0), some (.int w)], [.int (-1)], [], D) rfl trivial ?_
      exact hr.2.2.2 _ _ _ rfl trivial ⟨(by rw [fv_rcount, if_neg h1, if_neg h7]), rfl⟩
def fv_rcut0 (n : Int32) (D : zx_D) : Int32 := if n < 0 then -1 else if n ≤ zg_i D 0 1 then (zg_i D 0 1) - n else -1
def fs_rcut0 (n : Int32) (D : zx_D) : zx_D := if n < 0 then D else if n ≤ zg_i D 0 1 then zp_i (zp_i D 0 3 (zg_i D 0 3)) 0 1 n else D
set_option maxRecDepth 100000 in
set_option maxHeartbeats 4000000 in
theorem t_rcut0 {l : Launch} {E : zx_E} {d : Nat} (n : Int32) (D : zx_D)  : zx_MR l E 104 d [.ref 0, .int n, .int 0] ([], D) (fun v S => v = some (.int (fv_rcut0 n D)) ∧ S = ([], fs_rcut0 n D)) := by
  refine zx_ofR (K := ck_R_cut) rfl (by decide +kernel) rfl ok_R_cut (Nat.le_of_ble_eq_true rfl) (fun Zp hr => ?_)
  show Zp (0, [some (.ref 0), some (.int n), some (.int 0), none], [], [], D)
  refine hr.1 1 True _ _ (1, [some (.ref 0), some (.int n), some (.int 0), none], [.int 0], [], D) rfl trivial ?_
  refine hr.2.1 _ ((0 : Int32) = 0) _ _ rfl (fun _ => ?_) (fun h => absurd (by decide) h)
  refine hr.1 4 True _ _ (17, [some (.ref 0), some (.int n), some (.int 0), some (.int (zg_i D 0 1))], [.int n], [], D) rfl trivial ?_
  refine hr.2.1 _ (n < 0) _ _ rfl (fun h17 => ?_) (fun h17 => ?_)
  · skip
    refine hr.1 1 True _ _ (26, [some (.ref 0), some (.int n), some (.int 0), some (.int (zg_i D 0 1))], [.int (-1)], [], D) rfl trivial ?_
    exact hr.2.2.2 _ _ _ rfl trivial ⟨(by rw [fv_rcut0, if_pos h17]), (by rw [fs_rcut0, if_pos h17])⟩
  · skip
    refine hr.1 2 True _ _ (22, [some (.ref 0), some (.int n), some (.int 0), some (.int (zg_i D 0 1))], [.int (zg_i D 0 1), .int n], [], D) rfl trivial ?_
    refine hr.2.1 _ (n ≤ zg_i D 0 1) _ _ rfl (fun h22 => ?_) (fun h22 => ?_)
    · skip
      refine hr.1 2 True _ _ (29, [some (.ref 0), some (.int n), some (.int 0), some (.int (zg_i D 0 1))], [.int 0, .ref 0], [], D) rfl trivial ?_
      refine hr.2.1 _ ((0 : Int32) = 0) _ _ rfl (fun _ => ?_) (fun h => absurd (by decide) h)
      refine hr.1 5 True _ _ (45, [some (.ref 0), some (.int n), some (.int 0), some (.int (zg_i D 0 1))], [.int 0, .ref 0], [], zp_i D 0 3 (zg_i D 0 3)) rfl trivial ?_
      refine hr.2.1 _ ((0 : Int32) = 0) _ _ rfl (fun _ => ?_) (fun h => absurd (by decide) h)
      refine hr.1 5 True _ _ (62, [some (.ref 0), some (.int n), some (.int 0), some (.int (zg_i D 0 1))], [.int ((zg_i D 0 1) - n)], [], zp_i (zp_i D 0 3 (zg_i D 0 3)) 0 1 n) rfl trivial ?_
      exact hr.2.2.2 _ _ _ rfl trivial ⟨(by rw [fv_rcut0, if_neg h17, if_pos h22]), (by rw [fs_rcut0, if_neg h17, if_pos h22])⟩
    · skip
      refine hr.1 1 True _ _ (26, [some (.ref 0), some (.int n), some (.int 0), some (.int (zg_i D 0 1))], [.int (-1)], [], D) rfl trivial ?_
      exact hr.2.2.2 _ _ _ rfl trivial ⟨(by rw [fv_rcut0, if_neg h17, if_neg h22]), (by rw [fs_rcut0, if_neg h17, if_neg h22])⟩
def fv_rcut1 (n : Int32) (D : zx_D) : Int32 := if n < 0 then -1 else if n ≤ zg_i D 0 3 then (zg_i D 0 3) - n else -1
def fs_rcut1 (n : Int32) (D : zx_D) : zx_D := if n < 0 then D else if n ≤ zg_i D 0 3 then zp_i (zp_i D 0 3 n) 0 1 (zg_i D 0 1) else D
set_option maxRecDepth 100000 in
set_option maxHeartbeats 4000000 in
theorem t_rcut1 {l : Launch} {E : zx_E} {d : Nat} (n : Int32) (D : zx_D)  : zx_MR l E 104 d [.ref 0, .int n, .int 1] ([], D) (fun v S => v = some (.int (fv_rcut1 n D)) ∧ S = ([], fs_rcut1 n D)) := by
  refine zx_ofR (K := ck_R_cut) rfl (by decide +kernel) rfl ok_R_cut (Nat.le_of_ble_eq_true rfl) (fun Zp hr => ?_)
  show Zp (0, [some (.ref 0), some (.int n), some (.int 1), none], [], [], D)
  refine hr.1 1 True _ _ (1, [some (.ref 0), some (.int n), some (.int 1), none], [.int 1], [], D) rfl trivial ?_
  refine hr.2.1 _ ((1 : Int32) = 0) _ _ rfl (fun h => absurd h (by decide)) (fun _ => ?_)
  refine hr.1 5 True _ _ (17, [some (.ref 0), some (.int n), some (.int 1), some (.int (zg_i D 0 3))], [.int n], [], D) rfl trivial ?_
  refine hr.2.1 _ (n < 0) _ _ rfl (fun h17 => ?_) (fun h17 => ?_)
  · skip
    refine hr.1 1 True _ _ (26, [some (.ref 0), some (.int n), some (.int 1), some (.int (zg_i D 0 3))], [.int (-1)], [], D) rfl trivial ?_
    exact hr.2.2.2 _ _ _ rfl trivial ⟨(by rw [fv_rcut1, if_pos h17]), (by rw [fs_rcut1, if_pos h17])⟩
  · skip
    refine hr.1 2 True _ _ (22, [some (.ref 0), some (.int n), some (.int 1), some (.int (zg_i D 0 3))], [.int (zg_i D 0 3), .int n], [], D) rfl trivial ?_
    refine hr.2.1 _ (n ≤ zg_i D 0 3) _ _ rfl (fun h22 => ?_) (fun h22 => ?_)
    · skip
      refine hr.1 2 True _ _ (29, [some (.ref 0), some (.int n), some (.int 1), some (.int (zg_i D 0 3))], [.int 1, .ref 0], [], D) rfl trivial ?_
      refine hr.2.1 _ ((1 : Int32) = 0) _ _ rfl (fun h => absurd h (by decide)) (fun _ => ?_)
      refine hr.1 5 True _ _ (45, [some (.ref 0), some (.int n), some (.int 1), some (.int (zg_i D 0 3))], [.int 1, .ref 0], [], zp_i D 0 3 n) rfl trivial ?_
      refine hr.2.1 _ ((1 : Int32) = 0) _ _ rfl (fun h => absurd h (by decide)) (fun _ => ?_)
      refine hr.1 7 True _ _ (62, [some (.ref 0), some (.int n), some (.int 1), some (.int (zg_i D 0 3))], [.int ((zg_i D 0 3) - n)], [], zp_i (zp_i D 0 3 n) 0 1 (zg_i D 0 1)) rfl trivial ?_
      exact hr.2.2.2 _ _ _ rfl trivial ⟨(by rw [fv_rcut1, if_neg h17, if_pos h22]), (by rw [fs_rcut1, if_neg h17, if_pos h22])⟩
    · skip
      refine hr.1 1 True _ _ (26, [some (.ref 0), some (.int n), some (.int 1), some (.int (zg_i D 0 3))], [.int (-1)], [], D) rfl trivial ?_
      exact hr.2.2.2 _ _ _ rfl trivial ⟨(by rw [fv_rcut1, if_neg h17, if_neg h22]), (by rw [fs_rcut1, if_neg h17, if_neg h22])⟩
def fs_rprops (x : Int32) (D : zx_D) : zx_D := if ¬ fv_risProps x D = 0 then zp_i (zp_i (zp_i D 0 9 (zo_rem x 9)) 0 10 (zo_rem (x / 9) 5)) 0 11 (x / 45) else zp_i (zp_i (zp_i (fs_rfail (-3) (zg_i D 0 28) D) 0 9 (zo_rem x 9)) 0 10 (zo_rem (x / 9) 5)) 0 11 (x / 45)
set_option maxRecDepth 100000 in
set_option maxHeartbeats 4000000 in
theorem t_rprops {l : Launch} {E : zx_E} {d : Nat} (x : Int32) (D : zx_D)  : zx_MR l E 127 (d + 1) [.ref 0, .int x] ([], D) (fun v S => v = none ∧ S = ([], fs_rprops x D)) := by
  refine zx_ofR (K := ck_R_properties) rfl (by decide +kernel) rfl ok_R_properties (Nat.le_of_ble_eq_true rfl) (fun Zp hr => ?_)
  show Zp (0, [some (.ref 0), some (.int x)], [], [], D)
  refine hr.1 1 True _ _ (1, [some (.ref 0), some (.int x)], [.int x], [], D) rfl trivial ?_
  refine hr.2.2.1 _ _ _ _ _ d rfl (by omega) (t_risProps x D) (fun v S hq => ?_)
  obtain ⟨rfl, rfl⟩ := hq
  refine hr.2.1 _ (¬ fv_risProps x D = 0) _ _ rfl (fun h4 => ?_) (fun h4 => ?_)
  · skip
    refine hr.1 17 True _ _ (43, [some (.ref 0), some (.int x)], [], [], zp_i (zp_i (zp_i D 0 9 (zo_rem x 9)) 0 10 (zo_rem (x / 9) 5)) 0 11 (x / 45)) rfl trivial ?_
    exact hr.2.2.2 _ _ _ rfl trivial ⟨rfl, (by rw [fs_rprops, if_pos h4])⟩
  · skip
    refine hr.1 4 True _ _ (14, [some (.ref 0), some (.int x)], [.int (zg_i D 0 28), .int (-3), .ref 0], [], D) rfl trivial ?_
    refine hr.2.2.1 _ _ _ _ _ d rfl (by omega) (t_rfail (-3) (zg_i D 0 28) D) (fun v S hq => ?_)
    obtain ⟨rfl, rfl⟩ := hq
    refine hr.1 17 True _ _ (43, [some (.ref 0), some (.int x)], [], [], zp_i (zp_i (zp_i (fs_rfail (-3) (zg_i D 0 28) D) 0 9 (zo_rem x 9)) 0 10 (zo_rem (x / 9) 5)) 0 11 (x / 45)) rfl trivial ?_
    exact hr.2.2.2 _ _ _ rfl trivial ⟨rfl, (by rw [fs_rprops, if_neg h4])⟩
def fv_rbytes  (D : zx_D) : Int32 := (zg_i D 0 5) - (zg_i D 0 23)
set_option maxRecDepth 100000 in
set_option maxHeartbeats 4000000 in
theorem t_rbytes {l : Launch} {E : zx_E} {d : Nat}  (D : zx_D)  : zx_MR l E 146 d [.ref 0] ([], D) (fun v S => v = some (.int (fv_rbytes D)) ∧ S = ([], D)) := by
  refine zx_ofR (K := ck_R_bytes) rfl (by decide +kernel) rfl ok_R_bytes (Nat.le_of_ble_eq_true rfl) (fun Zp hr => ?_)
  show Zp (0, [some (.ref 0)], [], [], D)
  refine hr.1 5 True _ _ (9, [some (.ref 0)], [.int ((zg_i D 0 5) - (zg_i D 0 23))], [], D) rfl trivial ?_
  exact hr.2.2.2 _ _ _ rfl trivial ⟨(by rw [fv_rbytes]), rfl⟩
def fv_rlow4 (p : Int32) (D : zx_D) : Int32 := p &&& ((zo_shl 1 (zg_i D 0 11)) - 1)
set_option maxRecDepth 100000 in
set_option maxHeartbeats 4000000 in
theorem t_rlow4 {l : Launch} {E : zx_E} {d : Nat} (p : Int32) (D : zx_D)  : zx_MR l E 147 d [.ref 0, .int p] ([], D) (fun v S => v = some (.int (fv_rlow4 p D)) ∧ S = ([], D)) := by
  refine zx_ofR (K := ck_R_low4) rfl (by decide +kernel) rfl ok_R_low4 (Nat.le_of_ble_eq_true rfl) (fun Zp hr => ?_)
  show Zp (0, [some (.ref 0), some (.int p)], [], [], D)
  refine hr.1 8 True _ _ (10, [some (.ref 0), some (.int p)], [.int (p &&& ((zo_shl 1 (zg_i D 0 11)) - 1))], [], D) rfl trivial ?_
  exact hr.2.2.2 _ _ _ rfl trivial ⟨(by rw [fv_rlow4]), rfl⟩
def fv_rcontext (p q : Int32) (D : zx_D) : Int32 := 0 + (768 * ((zo_shl (p &&& ((zo_shl 1 (zg_i D 0 10)) - 1)) (zg_i D 0 9)) + (zo_shr q (8 - (zg_i D 0 9)))))
set_option maxRecDepth 100000 in
set_option maxHeartbeats 4000000 in
theorem t_rcontext {l : Launch} {E : zx_E} {d : Nat} (p q : Int32) (D : zx_D)  : zx_MR l E 155 d [.ref 0, .int p, .int q] ([], D) (fun v S => v = some (.int (fv_rcontext p q D)) ∧ S = ([], D)) := by
  refine zx_ofR (K := ck_R_context) rfl (by decide +kernel) rfl ok_R_context (Nat.le_of_ble_eq_true rfl) (fun Zp hr => ?_)
  show Zp (0, [some (.ref 0), some (.int p), some (.int q)], [], [], D)
  refine hr.1 22 True _ _ (31, [some (.ref 0), some (.int p), some (.int q)], [.int (0 + (768 * ((zo_shl (p &&& ((zo_shl 1 (zg_i D 0 10)) - 1)) (zg_i D 0 9)) + (zo_shr q (8 - (zg_i D 0 9))))))], [], D) rfl trivial ?_
  exact hr.2.2.2 _ _ _ rfl trivial ⟨(by rw [fv_rcontext]), rfl⟩
def fv_rdistOf (k : Int32) (D : zx_D) : Int64 := if ¬ k = 0 then if ¬ k = 1 then if ¬ k = 2 then zg_l D 0 16 else zg_l D 0 15 else zg_l D 0 14 else zg_l D 0 13
set_option maxRecDepth 100000 in
set_option maxHeartbeats 4000000 in
theorem t_rdistOf {l : Launch} {E : zx_E} {d : Nat} (k : Int32) (D : zx_D)  : zx_MR l E 165 d [.ref 0, .int k] ([], D) (fun v S => v = some (.long (fv_rdistOf k D)) ∧ S = ([], D)) := by
  refine zx_ofR (K := ck_R_distanceOf) rfl (by decide +kernel) rfl ok_R_distanceOf (Nat.le_of_ble_eq_true rfl) (fun Zp hr => ?_)
  show Zp (0, [some (.ref 0), some (.int k)], [], [], D)
  refine hr.1 1 True _ _ (1, [some (.ref 0), some (.int k)], [.int k], [], D) rfl trivial ?_
  refine hr.2.1 _ (¬ k = 0) _ _ rfl (fun h1 => ?_) (fun h1 => ?_)
  · skip
    refine hr.1 2 True _ _ (13, [some (.ref 0), some (.int k)], [.int 1, .int k], [], D) rfl trivial ?_
    refine hr.2.1 _ (¬ k = 1) _ _ rfl (fun h13 => ?_) (fun h13 => ?_)
    · skip
      refine hr.1 2 True _ _ (25, [some (.ref 0), some (.int k)], [.int 2, .int k], [], D) rfl trivial ?_
      refine hr.2.1 _ (¬ k = 2) _ _ rfl (fun h25 => ?_) (fun h25 => ?_)
      · skip
        refine hr.1 2 True _ _ (39, [some (.ref 0), some (.int k)], [.long (zg_l D 0 16)], [], D) rfl trivial ?_
        exact hr.2.2.2 _ _ _ rfl trivial ⟨(by rw [fv_rdistOf, if_pos h1, if_pos h13, if_pos h25]), rfl⟩
      · skip
        refine hr.1 3 True _ _ (39, [some (.ref 0), some (.int k)], [.long (zg_l D 0 15)], [], D) rfl trivial ?_
        exact hr.2.2.2 _ _ _ rfl trivial ⟨(by rw [fv_rdistOf, if_pos h1, if_pos h13, if_neg h25]), rfl⟩
    · skip
      refine hr.1 3 True _ _ (39, [some (.ref 0), some (.int k)], [.long (zg_l D 0 14)], [], D) rfl trivial ?_
      exact hr.2.2.2 _ _ _ rfl trivial ⟨(by rw [fv_rdistOf, if_pos h1, if_neg h13]), rfl⟩
  · skip
    refine hr.1 3 True _ _ (39, [some (.ref 0), some (.int k)], [.long (zg_l D 0 13)], [], D) rfl trivial ?_
    exact hr.2.2.2 _ _ _ rfl trivial ⟨(by rw [fv_rdistOf, if_neg h1]), rfl⟩
def fs_rturn (k : Int32) (D : zx_D) : zx_D := if ¬ k = 0 then if ¬ k = 1 then if ¬ k = 2 then if k ≤ 2 then if k ≤ 1 then if k ≤ 0 then zp_l (zp_l (zp_l (zp_l D 0 16 (zg_l D 0 16)) 0 15 (zg_l D 0 15)) 0 14 (zg_l D 0 14)) 0 13 (zg_l D 0 16) else zp_l (zp_l (zp_l (zp_l D 0 16 (zg_l D 0 16)) 0 15 (zg_l D 0 15)) 0 14 (zg_l D 0 13)) 0 13 (zg_l D 0 16) else if k ≤ 0 then zp_l (zp_l (zp_l (zp_l D 0 16 (zg_l D 0 16)) 0 15 (zg_l D 0 14)) 0 14 (zg_l D 0 14)) 0 13 (zg_l D 0 16) else zp_l (zp_l (zp_l (zp_l D 0 16 (zg_l D 0 16)) 0 15 (zg_l D 0 14)) 0 14 (zg_l D 0 13)) 0 13 (zg_l D 0 16) else if k ≤ 1 then if k ≤ 0 then zp_l (zp_l (zp_l (zp_l D 0 16 (zg_l D 0 15)) 0 15 (zg_l D 0 15)) 0 14 (zg_l D 0 14)) 0 13 (zg_l D 0 16) else zp_l (zp_l (zp_l (zp_l D 0 16 (zg_l D 0 15)) 0 15 (zg_l D 0 15)) 0 14 (zg_l D 0 13)) 0 13 (zg_l D 0 16) else if k ≤ 0 then zp_l (zp_l (zp_l (zp_l D 0 16 (zg_l D 0 15)) 0 15 (zg_l D 0 14)) 0 14 (zg_l D 0 14)) 0 13 (zg_l D 0 16) else zp_l (zp_l (zp_l (zp_l D 0 16 (zg_l D 0 15)) 0 15 (zg_l D 0 14)) 0 14 (zg_l D 0 13)) 0 13 (zg_l D 0 16) else if k ≤ 2 then if k ≤ 1 then if k ≤ 0 then zp_l (zp_l (zp_l (zp_l D 0 16 (zg_l D 0 16)) 0 15 (zg_l D 0 15)) 0 14 (zg_l D 0 14)) 0 13 (zg_l D 0 15) else zp_l (zp_l (zp_l (zp_l D 0 16 (zg_l D 0 16)) 0 15 (zg_l D 0 15)) 0 14 (zg_l D 0 13)) 0 13 (zg_l D 0 15) else if k ≤ 0 then zp_l (zp_l (zp_l (zp_l D 0 16 (zg_l D 0 16)) 0 15 (zg_l D 0 14)) 0 14 (zg_l D 0 14)) 0 13 (zg_l D 0 15) else zp_l (zp_l (zp_l (zp_l D 0 16 (zg_l D 0 16)) 0 15 (zg_l D 0 14)) 0 14 (zg_l D 0 13)) 0 13 (zg_l D 0 15) else if k ≤ 1 then if k ≤ 0 then zp_l (zp_l (zp_l (zp_l D 0 16 (zg_l D 0 15)) 0 15 (zg_l D 0 15)) 0 14 (zg_l D 0 14)) 0 13 (zg_l D 0 15) else zp_l (zp_l (zp_l (zp_l D 0 16 (zg_l D 0 15)) 0 15 (zg_l D 0 15)) 0 14 (zg_l D 0 13)) 0 13 (zg_l D 0 15) else if k ≤ 0 then zp_l (zp_l (zp_l (zp_l D 0 16 (zg_l D 0 15)) 0 15 (zg_l D 0 14)) 0 14 (zg_l D 0 14)) 0 13 (zg_l D 0 15) else zp_l (zp_l (zp_l (zp_l D 0 16 (zg_l D 0 15)) 0 15 (zg_l D 0 14)) 0 14 (zg_l D 0 13)) 0 13 (zg_l D 0 15) else if k ≤ 2 then if k ≤ 1 then if k ≤ 0 then zp_l (zp_l (zp_l (zp_l D 0 16 (zg_l D 0 16)) 0 15 (zg_l D 0 15)) 0 14 (zg_l D 0 14)) 0 13 (zg_l D 0 14) else zp_l (zp_l (zp_l (zp_l D 0 16 (zg_l D 0 16)) 0 15 (zg_l D 0 15)) 0 14 (zg_l D 0 13)) 0 13 (zg_l D 0 14) else if k ≤ 0 then zp_l (zp_l (zp_l (zp_l D 0 16 (zg_l D 0 16)) 0 15 (zg_l D 0 14)) 0 14 (zg_l D 0 14)) 0 13 (zg_l D 0 14) else zp_l (zp_l (zp_l (zp_l D 0 16 (zg_l D 0 16)) 0 15 (zg_l D 0 14)) 0 14 (zg_l D 0 13)) 0 13 (zg_l D 0 14) else if k ≤ 1 then if k ≤ 0 then zp_l (zp_l (zp_l (zp_l D 0 16 (zg_l D 0 15)) 0 15 (zg_l D 0 15)) 0 14 (zg_l D 0 14)) 0 13 (zg_l D 0 14) else zp_l (zp_l (zp_l (zp_l D 0 16 (zg_l D 0 15)) 0 15 (zg_l D 0 15)) 0 14 (zg_l D 0 13)) 0 13 (zg_l D 0 14) else if k ≤ 0 then zp_l (zp_l (zp_l (zp_l D 0 16 (zg_l D 0 15)) 0 15 (zg_l D 0 14)) 0 14 (zg_l D 0 14)) 0 13 (zg_l D 0 14) else zp_l (zp_l (zp_l (zp_l D 0 16 (zg_l D 0 15)) 0 15 (zg_l D 0 14)) 0 14 (zg_l D 0 13)) 0 13 (zg_l D 0 14) else if k ≤ 2 then if k ≤ 1 then if k ≤ 0 then zp_l (zp_l (zp_l (zp_l D 0 16 (zg_l D 0 16)) 0 15 (zg_l D 0 15)) 0 14 (zg_l D 0 14)) 0 13 (zg_l D 0 13) else zp_l (zp_l (zp_l (zp_l D 0 16 (zg_l D 0 16)) 0 15 (zg_l D 0 15)) 0 14 (zg_l D 0 13)) 0 13 (zg_l D 0 13) else if k ≤ 0 then zp_l (zp_l (zp_l (zp_l D 0 16 (zg_l D 0 16)) 0 15 (zg_l D 0 14)) 0 14 (zg_l D 0 14)) 0 13 (zg_l D 0 13) else zp_l (zp_l (zp_l (zp_l D 0 16 (zg_l D 0 16)) 0 15 (zg_l D 0 14)) 0 14 (zg_l D 0 13)) 0 13 (zg_l D 0 13) else if k ≤ 1 then if k ≤ 0 then zp_l (zp_l (zp_l (zp_l D 0 16 (zg_l D 0 15)) 0 15 (zg_l D 0 15)) 0 14 (zg_l D 0 14)) 0 13 (zg_l D 0 13) else zp_l (zp_l (zp_l (zp_l D 0 16 (zg_l D 0 15)) 0 15 (zg_l D 0 15)) 0 14 (zg_l D 0 13)) 0 13 (zg_l D 0 13) else if k ≤ 0 then zp_l (zp_l (zp_l (zp_l D 0 16 (zg_l D 0 15)) 0 15 (zg_l D 0 14)) 0 14 (zg_l D 0 14)) 0 13 (zg_l D 0 13) else zp_l (zp_l (zp_l (zp_l D 0 16 (zg_l D 0 15)) 0 15 (zg_l D 0 14)) 0 14 (zg_l D 0 13)) 0 13 (zg_l D 0 13)
set_option maxRecDepth 100000 in
set_option maxHeartbeats 4000000 in
theorem t_rturn {l : Launch} {E : zx_E} {d : Nat} (k : Int32) (D : zx_D)  : zx_MR l E 151 d [.ref 0, .int k] ([], D) (fun v S => v = none ∧ S = ([], fs_rturn k D)) := by
  refine zx_ofR (K := ck_R_turn) rfl (by decide +kernel) rfl ok_R_turn (Nat.le_of_ble_eq_true rfl) (fun Zp hr => ?_)
  show Zp (0, [some (.ref 0), some (.int k), none, none], [], [], D)
  refine hr.1 1 True _ _ (1, [some (.ref 0), some (.int k), none, none], [.int k], [], D) rfl trivial ?_
  refine hr.2.1 _ (¬ k = 0) _ _ rfl (fun h1 => ?_) (fun h1 => ?_)
  · skip
    refine hr.1 2 True _ _ (13, [some (.ref 0), some (.int k), none, none], [.int 1, .int k], [], D) rfl trivial ?_
    refine hr.2.1 _ (¬ k = 1) _ _ rfl (fun h13 => ?_) (fun h13 => ?_)
    · skip
      refine hr.1 2 True _ _ (25, [some (.ref 0), some (.int k), none, none], [.int 2, .int k], [], D) rfl trivial ?_
      refine hr.2.1 _ (¬ k = 2) _ _ rfl (fun h25 => ?_) (fun h25 => ?_)
      · skip
        refine hr.1 6 True _ _ (43, [some (.ref 0), some (.int k), some (.long (zg_l D 0 16)), none], [.int 2, .int k, .ref 0], [], D) rfl trivial ?_
        refine hr.2.1 _ (k ≤ 2) _ _ rfl (fun h43 => ?_) (fun h43 => ?_)
        · skip
          refine hr.1 6 True _ _ (63, [some (.ref 0), some (.int k), some (.long (zg_l D 0 16)), none], [.int 1, .int k, .ref 0], [], zp_l D 0 16 (zg_l D 0 16)) rfl trivial ?_
          refine hr.2.1 _ (k ≤ 1) _ _ rfl (fun h63 => ?_) (fun h63 => ?_)
          · skip
            refine hr.1 5 True _ _ (82, [some (.ref 0), some (.int k), some (.long (zg_l D 0 16)), none], [.int k, .ref 0], [], zp_l (zp_l D 0 16 (zg_l D 0 16)) 0 15 (zg_l D 0 15)) rfl trivial ?_
            refine hr.2.1 _ (k ≤ 0) _ _ rfl (fun h82 => ?_) (fun h82 => ?_)
            · skip
              refine hr.1 6 True _ _ (104, [some (.ref 0), some (.int k), some (.long (zg_l D 0 16)), none], [], [], zp_l (zp_l (zp_l (zp_l D 0 16 (zg_l D 0 16)) 0 15 (zg_l D 0 15)) 0 14 (zg_l D 0 14)) 0 13 (zg_l D 0 16)) rfl trivial ?_
              exact hr.2.2.2 _ _ _ rfl trivial ⟨rfl, (by rw [fs_rturn, if_pos h1, if_pos h13, if_pos h25, if_pos h43, if_pos h63, if_pos h82])⟩
            · skip
              refine hr.1 7 True _ _ (104, [some (.ref 0), some (.int k), some (.long (zg_l D 0 16)), none], [], [], zp_l (zp_l (zp_l (zp_l D 0 16 (zg_l D 0 16)) 0 15 (zg_l D 0 15)) 0 14 (zg_l D 0 13)) 0 13 (zg_l D 0 16)) rfl trivial ?_
              exact hr.2.2.2 _ _ _ rfl trivial ⟨rfl, (by rw [fs_rturn, if_pos h1, if_pos h13, if_pos h25, if_pos h43, if_pos h63, if_neg h82])⟩
          · skip
            refine hr.1 6 True _ _ (82, [some (.ref 0), some (.int k), some (.long (zg_l D 0 16)), none], [.int k, .ref 0], [], zp_l (zp_l D 0 16 (zg_l D 0 16)) 0 15 (zg_l D 0 14)) rfl trivial ?_
            refine hr.2.1 _ (k ≤ 0) _ _ rfl (fun h82 => ?_) (fun h82 => ?_)
            · skip
              refine hr.1 6 True _ _ (104, [some (.ref 0), some (.int k), some (.long (zg_l D 0 16)), none], [], [], zp_l (zp_l (zp_l (zp_l D 0 16 (zg_l D 0 16)) 0 15 (zg_l D 0 14)) 0 14 (zg_l D 0 14)) 0 13 (zg_l D 0 16)) rfl trivial ?_
              exact hr.2.2.2 _ _ _ rfl trivial ⟨rfl, (by rw [fs_rturn, if_pos h1, if_pos h13, if_pos h25, if_pos h43, if_neg h63, if_pos h82])⟩
            · skip
              refine hr.1 7 True _ _ (104, [some (.ref 0), some (.int k), some (.long (zg_l D 0 16)), none], [], [], zp_l (zp_l (zp_l (zp_l D 0 16 (zg_l D 0 16)) 0 15 (zg_l D 0 14)) 0 14 (zg_l D 0 13)) 0 13 (zg_l D 0 16)) rfl trivial ?_
              exact hr.2.2.2 _ _ _ rfl trivial ⟨rfl, (by rw [fs_rturn, if_pos h1, if_pos h13, if_pos h25, if_pos h43, if_neg h63, if_neg h82])⟩
        · skip
          refine hr.1 7 True _ _ (63, [some (.ref 0), some (.int k), some (.long (zg_l D 0 16)), none], [.int 1, .int k, .ref 0], [], zp_l D 0 16 (zg_l D 0 15)) rfl trivial ?_
          refine hr.2.1 _ (k ≤ 1) _ _ rfl (fun h63 => ?_) (fun h63 => ?_)
          · skip
            refine hr.1 5 True _ _ (82, [some (.ref 0), some (.int k), some (.long (zg_l D 0 16)), none], [.int k, .ref 0], [], zp_l (zp_l D 0 16 (zg_l D 0 15)) 0 15 (zg_l D 0 15)) rfl trivial ?_
            refine hr.2.1 _ (k ≤ 0) _ _ rfl (fun h82 => ?_) (fun h82 => ?_)
            · skip
              refine hr.1 6 True _ _ (104, [some (.ref 0), some (.int k), some (.long (zg_l D 0 16)), none], [], [], zp_l (zp_l (zp_l (zp_l D 0 16 (zg_l D 0 15)) 0 15 (zg_l D 0 15)) 0 14 (zg_l D 0 14)) 0 13 (zg_l D 0 16)) rfl trivial ?_
              exact hr.2.2.2 _ _ _ rfl trivial ⟨rfl, (by rw [fs_rturn, if_pos h1, if_pos h13, if_pos h25, if_neg h43, if_pos h63, if_pos h82])⟩
            · skip
              refine hr.1 7 True _ _ (104, [some (.ref 0), some (.int k), some (.long (zg_l D 0 16)), none], [], [], zp_l (zp_l (zp_l (zp_l D 0 16 (zg_l D 0 15)) 0 15 (zg_l D 0 15)) 0 14 (zg_l D 0 13)) 0 13 (zg_l D 0 16)) rfl trivial ?_
              exact hr.2.2.2 _ _ _ rfl trivial ⟨rfl, (by rw [fs_rturn, if_pos h1, if_pos h13, if_pos h25, if_neg h43, if_pos h63, if_neg h82])⟩
          · skip
            refine hr.1 6 True _ _ (82, [some (.ref 0), some (.int k), some (.long (zg_l D 0 16)), none], [.int k, .ref 0], [], zp_l (zp_l D 0 16 (zg_l D 0 15)) 0 15 (zg_l D 0 14)) rfl trivial ?_
            refine hr.2.1 _ (k ≤ 0) _ _ rfl (fun h82 => ?_) (fun h82 => ?_)
            · skip
              refine hr.1 6 True _ _ (104, [some (.ref 0), some (.int k), some (.long (zg_l D 0 16)), none], [], [], zp_l (zp_l (zp_l (zp_l D 0 16 (zg_l D 0 15)) 0 15 (zg_l D 0 14)) 0 14 (zg_l D 0 14)) 0 13 (zg_l D 0 16)) rfl trivial ?_
              exact hr.2.2.2 _ _ _ rfl trivial ⟨rfl, (by rw [fs_rturn, if_pos h1, if_pos h13, if_pos h25, if_neg h43, if_neg h63, if_pos h82])⟩
            · skip
              refine hr.1 7 True _ _ (104, [some (.ref 0), some (.int k), some (.long (zg_l D 0 16)), none], [], [], zp_l (zp_l (zp_l (zp_l D 0 16 (zg_l D 0 15)) 0 15 (zg_l D 0 14)) 0 14 (zg_l D 0 13)) 0 13 (zg_l D 0 16)) rfl trivial ?_
              exact hr.2.2.2 _ _ _ rfl trivial ⟨rfl, (by rw [fs_rturn, if_pos h1, if_pos h13, if_pos h25, if_neg h43, if_neg h63, if_neg h82])⟩
      · skip
        refine hr.1 7 True _ _ (43, [some (.ref 0), some (.int k), some (.long (zg_l D 0 15)), none], [.int 2, .int k, .ref 0], [], D) rfl trivial ?_
        refine hr.2.1 _ (k ≤ 2) _ _ rfl (fun h43 => ?_) (fun h43 => ?_)
        · skip
          refine hr.1 6 True _ _ (63, [some (.ref 0), some (.int k), some (.long (zg_l D 0 15)), none], [.int 1, .int k, .ref 0], [], zp_l D 0 16 (zg_l D 0 16)) rfl trivial ?_
          refine hr.2.1 _ (k ≤ 1) _ _ rfl (fun h63 => ?_) (fun h63 => ?_)
          · skip
            refine hr.1 5 True _ _ (82, [some (.ref 0), some (.int k), some (.long (zg_l D 0 15)), none], [.int k, .ref 0], [], zp_l (zp_l D 0 16 (zg_l D 0 16)) 0 15 (zg_l D 0 15)) rfl trivial ?_
            refine hr.2.1 _ (k ≤ 0) _ _ rfl (fun h82 => ?_) (fun h82 => ?_)
            · skip
              refine hr.1 6 True _ _ (104, [some (.ref 0), some (.int k), some (.long (zg_l D 0 15)), none], [], [], zp_l (zp_l (zp_l (zp_l D 0 16 (zg_l D 0 16)) 0 15 (zg_l D 0 15)) 0 14 (zg_l D 0 14)) 0 13 (zg_l D 0 15)) rfl trivial ?_
              exact hr.2.2.2 _ _ _ rfl trivial ⟨rfl, (by rw [fs_rturn, if_pos h1, if_pos h13, if_neg h25, if_pos h43, if_pos h63, if_pos h82])⟩
            · skip
              refine hr.1 7 True _ _ (104, [some (.ref 0), some (.int k), some (.long (zg_l D 0 15)), none], [], [], zp_l (zp_l (zp_l (zp_l D 0 16 (zg_l D 0 16)) 0 15 (zg_l D 0 15)) 0 14 (zg_l D 0 13)) 0 13 (zg_l D 0 15)) rfl trivial ?_
              exact hr.2.2.2 _ _ _ rfl trivial ⟨rfl, (by rw [fs_rturn, if_pos h1, if_pos h13, if_neg h25, if_pos h43, if_pos h63, if_neg h82])⟩
          · skip
            refine hr.1 6 True _ _ (82, [some (.ref 0), some (.int k), some (.long (zg_l D 0 15)), none], [.int k, .ref 0], [], zp_l (zp_l D 0 16 (zg_l D 0 16)) 0 15 (zg_l D 0 14)) rfl trivial ?_
            refine hr.2.1 _ (k ≤ 0) _ _ rfl (fun h82 => ?_) (fun h82 => ?_)
            · skip
              refine hr.1 6 True _ _ (104, [some (.ref 0), some (.int k), some (.long (zg_l D 0 15)), none], [], [], zp_l (zp_l (zp_l (zp_l D 0 16 (zg_l D 0 16)) 0 15 (zg_l D 0 14)) 0 14 (zg_l D 0 14)) 0 13 (zg_l D 0 15)) rfl trivial ?_
              exact hr.2.2.2 _ _ _ rfl trivial ⟨rfl, (by rw [fs_rturn, if_pos h1, if_pos h13, if_neg h25, if_pos h43, if_neg h63, if_pos h82])⟩
            · skip
              refine hr.1 7 True _ _ (104, [some (.ref 0), some (.int k), some (.long (zg_l D 0 15)), none], [], [], zp_l (zp_l (zp_l (zp_l D 0 16 (zg_l D 0 16)) 0 15 (zg_l D 0 14)) 0 14 (zg_l D 0 13)) 0 13 (zg_l D 0 15)) rfl trivial ?_
              exact hr.2.2.2 _ _ _ rfl trivial ⟨rfl, (by rw [fs_rturn, if_pos h1, if_pos h13, if_neg h25, if_pos h43, if_neg h63, if_neg h82])⟩
        · skip
          refine hr.1 7 True _ _ (63, [some (.ref 0), some (.int k), some (.long (zg_l D 0 15)), none], [.int 1, .int k, .ref 0], [], zp_l D 0 16 (zg_l D 0 15)) rfl trivial ?_
          refine hr.2.1 _ (k ≤ 1) _ _ rfl (fun h63 => ?_) (fun h63 => ?_)
          · skip
            refine hr.1 5 True _ _ (82, [some (.ref 0), some (.int k), some (.long (zg_l D 0 15)), none], [.int k, .ref 0], [], zp_l (zp_l D 0 16 (zg_l D 0 15)) 0 15 (zg_l D 0 15)) rfl trivial ?_
            refine hr.2.1 _ (k ≤ 0) _ _ rfl (fun h82 => ?_) (fun h82 => ?_)
            · skip
              refine hr.1 6 True _ _ (104, [some (.ref 0), some (.int k), some (.long (zg_l D 0 15)), none], [], [], zp_l (zp_l (zp_l (zp_l D 0 16 (zg_l D 0 15)) 0 15 (zg_l D 0 15)) 0 14 (zg_l D 0 14)) 0 13 (zg_l D 0 15)) rfl trivial ?_
              exact hr.2.2.2 _ _ _ rfl trivial ⟨rfl, (by rw [fs_rturn, if_pos h1, if_pos h13, if_neg h25, if_neg h43, if_pos h63, if_pos h82])⟩
            · skip
              refine hr.1 7 True _ _ (104, [some (.ref 0), some (.int k), some (.long (zg_l D 0 15)), none], [], [], zp_l (zp_l (zp_l (zp_l D 0 16 (zg_l D 0 15)) 0 15 (zg_l D 0 15)) 0 14 (zg_l D 0 13)) 0 13 (zg_l D 0 15)) rfl trivial ?_
              exact hr.2.2.2 _ _ _ rfl trivial ⟨rfl, (by rw [fs_rturn, if_pos h1, if_pos h13, if_neg h25, if_neg h43, if_pos h63, if_neg h82])⟩
          · skip
            refine hr.1 6 True _ _ (82, [some (.ref 0), some (.int k), some (.long (zg_l D 0 15)), none], [.int k, .ref 0], [], zp_l (zp_l D 0 16 (zg_l D 0 15)) 0 15 (zg_l D 0 14)) rfl trivial ?_
            refine hr.2.1 _ (k ≤ 0) _ _ rfl (fun h82 => ?_) (fun h82 => ?_)
            · skip
              refine hr.1 6 True _ _ (104, [some (.ref 0), some (.int k), some (.long (zg_l D 0 15)), none], [], [], zp_l (zp_l (zp_l (zp_l D 0 16 (zg_l D 0 15)) 0 15 (zg_l D 0 14)) 0 14 (zg_l D 0 14)) 0 13 (zg_l D 0 15)) rfl trivial ?_
              exact hr.2.2.2 _ _ _ rfl trivial ⟨rfl, (by rw [fs_rturn, if_pos h1, if_pos h13, if_neg h25, if_neg h43, if_neg h63, if_pos h82])⟩
            · skip
              refine hr.1 7 True _ _ (104, [some (.ref 0), some (.int k), some (.long (zg_l D 0 15)), none], [], [], zp_l (zp_l (zp_l (zp_l D 0 16 (zg_l D 0 15)) 0 15 (zg_l D 0 14)) 0 14 (zg_l D 0 13)) 0 13 (zg_l D 0 15)) rfl trivial ?_
              exact hr.2.2.2 _ _ _ rfl trivial ⟨rfl, (by rw [fs_rturn, if_pos h1, if_pos h13, if_neg h25, if_neg h43, if_neg h63, if_neg h82])⟩
    · skip
      refine hr.1 7 True _ _ (43, [some (.ref 0), some (.int k), some (.long (zg_l D 0 14)), none], [.int 2, .int k, .ref 0], [], D) rfl trivial ?_
      refine hr.2.1 _ (k ≤ 2) _ _ rfl (fun h43 => ?_) (fun h43 => ?_)
      · skip
        refine hr.1 6 True _ _ (63, [some (.ref 0), some (.int k), some (.long (zg_l D 0 14)), none], [.int 1, .int k, .ref 0], [], zp_l D 0 16 (zg_l D 0 16)) rfl trivial ?_
        refine hr.2.1 _ (k ≤ 1) _ _ rfl (fun h63 => ?_) (fun h63 => ?_)
        · skip
          refine hr.1 5 True _ _ (82, [some (.ref 0), some (.int k), some (.long (zg_l D 0 14)), none], [.int k, .ref 0], [], zp_l (zp_l D 0 16 (zg_l D 0 16)) 0 15 (zg_l D 0 15)) rfl trivial ?_
          refine hr.2.1 _ (k ≤ 0) _ _ rfl (fun h82 => ?_) (fun h82 => ?_)
          · skip
            refine hr.1 6 True _ _ (104, [some (.ref 0), some (.int k), some (.long (zg_l D 0 14)), none], [], [], zp_l (zp_l (zp_l (zp_l D 0 16 (zg_l D 0 16)) 0 15 (zg_l D 0 15)) 0 14 (zg_l D 0 14)) 0 13 (zg_l D 0 14)) rfl trivial ?_
            exact hr.2.2.2 _ _ _ rfl trivial ⟨rfl, (by rw [fs_rturn, if_pos h1, if_neg h13, if_pos h43, if_pos h63, if_pos h82])⟩
          · skip
            refine hr.1 7 True _ _ (104, [some (.ref 0), some (.int k), some (.long (zg_l D 0 14)), none], [], [], zp_l (zp_l (zp_l (zp_l D 0 16 (zg_l D 0 16)) 0 15 (zg_l D 0 15)) 0 14 (zg_l D 0 13)) 0 13 (zg_l D 0 14)) rfl trivial ?_
            exact hr.2.2.2 _ _ _ rfl trivial ⟨rfl, (by rw [fs_rturn, if_pos h1, if_neg h13, if_pos h43, if_pos h63, if_neg h82])⟩
        · skip
          refine hr.1 6 True _ _ (82, [some (.ref 0), some (.int k), some (.long (zg_l D 0 14)), none], [.int k, .ref 0], [], zp_l (zp_l D 0 16 (zg_l D 0 16)) 0 15 (zg_l D 0 14)) rfl trivial ?_
          refine hr.2.1 _ (k ≤ 0) _ _ rfl (fun h82 => ?_) (fun h82 => ?_)
          · skip
            refine hr.1 6 True _ _ (104, [some (.ref 0), some (.int k), some (.long (zg_l D 0 14)), none], [], [], zp_l (zp_l (zp_l (zp_l D 0 16 (zg_l D 0 16)) 0 15 (zg_l D 0 14)) 0 14 (zg_l D 0 14)) 0 13 (zg_l D 0 14)) rfl trivial ?_
            exact hr.2.2.2 _ _ _ rfl trivial ⟨rfl, (by rw [fs_rturn, if_pos h1, if_neg h13, if_pos h43, if_neg h63, if_pos h82])⟩
          · skip
            refine hr.1 7 True _ _ (104, [some (.ref 0), some (.int k), some (.long (zg_l D 0 14)), none], [], [], zp_l (zp_l (zp_l (zp_l D 0 16 (zg_l D 0 16)) 0 15 (zg_l D 0 14)) 0 14 (zg_l D 0 13)) 0 13 (zg_l D 0 14)) rfl trivial ?_
            exact hr.2.2.2 _ _ _ rfl trivial ⟨rfl, (by rw [fs_rturn, if_pos h1, if_neg h13, if_pos h43, if_neg h63, if_neg h82])⟩
      · skip
        refine hr.1 7 True _ _ (63, [some (.ref 0), some (.int k), some (.long (zg_l D 0 14)), none], [.int 1, .int k, .ref 0], [], zp_l D 0 16 (zg_l D 0 15)) rfl trivial ?_
        refine hr.2.1 _ (k ≤ 1) _ _ rfl (fun h63 => ?_) (fun h63 => ?_)
        · skip
          refine hr.1 5 True _ _ (82, [some (.ref 0), some (.int k), some (.long (zg_l D 0 14)), none], [.int k, .ref 0], [], zp_l (zp_l D 0 16 (zg_l D 0 15)) 0 15 (zg_l D 0 15)) rfl trivial ?_
          refine hr.2.1 _ (k ≤ 0) _ _ rfl (fun h82 => ?_) (fun h82 => ?_)
          · skip
            refine hr.1 6 True _ _ (104, [some (.ref 0), some (.int k), some (.long (zg_l D 0 14)), none], [], [], zp_l (zp_l (zp_l (zp_l D 0 16 (zg_l D 0 15)) 0 15 (zg_l D 0 15)) 0 14 (zg_l D 0 14)) 0 13 (zg_l D 0 14)) rfl trivial ?_
            exact hr.2.2.2 _ _ _ rfl trivial ⟨rfl, (by rw [fs_rturn, if_pos h1, if_neg h13, if_neg h43, if_pos h63, if_pos h82])⟩
          · skip
            refine hr.1 7 True _ _ (104, [some (.ref 0), some (.int k), some (.long (zg_l D 0 14)), none], [], [], zp_l (zp_l (zp_l (zp_l D 0 16 (zg_l D 0 15)) 0 15 (zg_l D 0 15)) 0 14 (zg_l D 0 13)) 0 13 (zg_l D 0 14)) rfl trivial ?_
            exact hr.2.2.2 _ _ _ rfl trivial ⟨rfl, (by rw [fs_rturn, if_pos h1, if_neg h13, if_neg h43, if_pos h63, if_neg h82])⟩
        · skip
          refine hr.1 6 True _ _ (82, [some (.ref 0), some (.int k), some (.long (zg_l D 0 14)), none], [.int k, .ref 0], [], zp_l (zp_l D 0 16 (zg_l D 0 15)) 0 15 (zg_l D 0 14)) rfl trivial ?_
          refine hr.2.1 _ (k ≤ 0) _ _ rfl (fun h82 => ?_) (fun h82 => ?_)
          · skip
            refine hr.1 6 True _ _ (104, [some (.ref 0), some (.int k), some (.long (zg_l D 0 14)), none], [], [], zp_l (zp_l (zp_l (zp_l D 0 16 (zg_l D 0 15)) 0 15 (zg_l D 0 14)) 0 14 (zg_l D 0 14)) 0 13 (zg_l D 0 14)) rfl trivial ?_
            exact hr.2.2.2 _ _ _ rfl trivial ⟨rfl, (by rw [fs_rturn, if_pos h1, if_neg h13, if_neg h43, if_neg h63, if_pos h82])⟩
          · skip
            refine hr.1 7 True _ _ (104, [some (.ref 0), some (.int k), some (.long (zg_l D 0 14)), none], [], [], zp_l (zp_l (zp_l (zp_l D 0 16 (zg_l D 0 15)) 0 15 (zg_l D 0 14)) 0 14 (zg_l D 0 13)) 0 13 (zg_l D 0 14)) rfl trivial ?_
            exact hr.2.2.2 _ _ _ rfl trivial ⟨rfl, (by rw [fs_rturn, if_pos h1, if_neg h13, if_neg h43, if_neg h63, if_neg h82])⟩
  · skip
    refine hr.1 7 True _ _ (43, [some (.ref 0), some (.int k), some (.long (zg_l D 0 13)), none], [.int 2, .int k, .ref 0], [], D) rfl trivial ?_
    refine hr.2.1 _ (k ≤ 2) _ _ rfl (fun h43 => ?_) (fun h43 => ?_)
    · skip
      refine hr.1 6 True _ _ (63, [some (.ref 0), some (.int k), some (.long (zg_l D 0 13)), none], [.int 1, .int k, .ref 0], [], zp_l D 0 16 (zg_l D 0 16)) rfl trivial ?_
      refine hr.2.1 _ (k ≤ 1) _ _ rfl (fun h63 => ?_) (fun h63 => ?_)
      · skip
        refine hr.1 5 True _ _ (82, [some (.ref 0), some (.int k), some (.long (zg_l D 0 13)), none], [.int k, .ref 0], [], zp_l (zp_l D 0 16 (zg_l D 0 16)) 0 15 (zg_l D 0 15)) rfl trivial ?_
        refine hr.2.1 _ (k ≤ 0) _ _ rfl (fun h82 => ?_) (fun h82 => ?_)
        · skip
          refine hr.1 6 True _ _ (104, [some (.ref 0), some (.int k), some (.long (zg_l D 0 13)), none], [], [], zp_l (zp_l (zp_l (zp_l D 0 16 (zg_l D 0 16)) 0 15 (zg_l D 0 15)) 0 14 (zg_l D 0 14)) 0 13 (zg_l D 0 13)) rfl trivial ?_
          exact hr.2.2.2 _ _ _ rfl trivial ⟨rfl, (by rw [fs_rturn, if_neg h1, if_pos h43, if_pos h63, if_pos h82])⟩
        · skip
          refine hr.1 7 True _ _ (104, [some (.ref 0), some (.int k), some (.long (zg_l D 0 13)), none], [], [], zp_l (zp_l (zp_l (zp_l D 0 16 (zg_l D 0 16)) 0 15 (zg_l D 0 15)) 0 14 (zg_l D 0 13)) 0 13 (zg_l D 0 13)) rfl trivial ?_
          exact hr.2.2.2 _ _ _ rfl trivial ⟨rfl, (by rw [fs_rturn, if_neg h1, if_pos h43, if_pos h63, if_neg h82])⟩
      · skip
        refine hr.1 6 True _ _ (82, [some (.ref 0), some (.int k), some (.long (zg_l D 0 13)), none], [.int k, .ref 0], [], zp_l (zp_l D 0 16 (zg_l D 0 16)) 0 15 (zg_l D 0 14)) rfl trivial ?_
        refine hr.2.1 _ (k ≤ 0) _ _ rfl (fun h82 => ?_) (fun h82 => ?_)
        · skip
          refine hr.1 6 True _ _ (104, [some (.ref 0), some (.int k), some (.long (zg_l D 0 13)), none], [], [], zp_l (zp_l (zp_l (zp_l D 0 16 (zg_l D 0 16)) 0 15 (zg_l D 0 14)) 0 14 (zg_l D 0 14)) 0 13 (zg_l D 0 13)) rfl trivial ?_
          exact hr.2.2.2 _ _ _ rfl trivial ⟨rfl, (by rw [fs_rturn, if_neg h1, if_pos h43, if_neg h63, if_pos h82])⟩
        · skip
          refine hr.1 7 True _ _ (104, [some (.ref 0), some (.int k), some (.long (zg_l D 0 13)), none], [], [], zp_l (zp_l (zp_l (zp_l D 0 16 (zg_l D 0 16)) 0 15 (zg_l D 0 14)) 0 14 (zg_l D 0 13)) 0 13 (zg_l D 0 13)) rfl trivial ?_
          exact hr.2.2.2 _ _ _ rfl trivial ⟨rfl, (by rw [fs_rturn, if_neg h1, if_pos h43, if_neg h63, if_neg h82])⟩
    · skip
      refine hr.1 7 True _ _ (63, [some (.ref 0), some (.int k), some (.long (zg_l D 0 13)), none], [.int 1, .int k, .ref 0], [], zp_l D 0 16 (zg_l D 0 15)) rfl trivial ?_
      refine hr.2.1 _ (k ≤ 1) _ _ rfl (fun h63 => ?_) (fun h63 => ?_)
      · skip
        refine hr.1 5 True _ _ (82, [some (.ref 0), some (.int k), some (.long (zg_l D 0 13)), none], [.int k, .ref 0], [], zp_l (zp_l D 0 16 (zg_l D 0 15)) 0 15 (zg_l D 0 15)) rfl trivial ?_
        refine hr.2.1 _ (k ≤ 0) _ _ rfl (fun h82 => ?_) (fun h82 => ?_)
        · skip
          refine hr.1 6 True _ _ (104, [some (.ref 0), some (.int k), some (.long (zg_l D 0 13)), none], [], [], zp_l (zp_l (zp_l (zp_l D 0 16 (zg_l D 0 15)) 0 15 (zg_l D 0 15)) 0 14 (zg_l D 0 14)) 0 13 (zg_l D 0 13)) rfl trivial ?_
          exact hr.2.2.2 _ _ _ rfl trivial ⟨rfl, (by rw [fs_rturn, if_neg h1, if_neg h43, if_pos h63, if_pos h82])⟩
        · skip
          refine hr.1 7 True _ _ (104, [some (.ref 0), some (.int k), some (.long (zg_l D 0 13)), none], [], [], zp_l (zp_l (zp_l (zp_l D 0 16 (zg_l D 0 15)) 0 15 (zg_l D 0 15)) 0 14 (zg_l D 0 13)) 0 13 (zg_l D 0 13)) rfl trivial ?_
          exact hr.2.2.2 _ _ _ rfl trivial ⟨rfl, (by rw [fs_rturn, if_neg h1, if_neg h43, if_pos h63, if_neg h82])⟩
      · skip
        refine hr.1 6 True _ _ (82, [some (.ref 0), some (.int k), some (.long (zg_l D 0 13)), none], [.int k, .ref 0], [], zp_l (zp_l D 0 16 (zg_l D 0 15)) 0 15 (zg_l D 0 14)) rfl trivial ?_
        refine hr.2.1 _ (k ≤ 0) _ _ rfl (fun h82 => ?_) (fun h82 => ?_)
        · skip
          refine hr.1 6 True _ _ (104, [some (.ref 0), some (.int k), some (.long (zg_l D 0 13)), none], [], [], zp_l (zp_l (zp_l (zp_l D 0 16 (zg_l D 0 15)) 0 15 (zg_l D 0 14)) 0 14 (zg_l D 0 14)) 0 13 (zg_l D 0 13)) rfl trivial ?_
          exact hr.2.2.2 _ _ _ rfl trivial ⟨rfl, (by rw [fs_rturn, if_neg h1, if_neg h43, if_neg h63, if_pos h82])⟩
        · skip
          refine hr.1 7 True _ _ (104, [some (.ref 0), some (.int k), some (.long (zg_l D 0 13)), none], [], [], zp_l (zp_l (zp_l (zp_l D 0 16 (zg_l D 0 15)) 0 15 (zg_l D 0 14)) 0 14 (zg_l D 0 13)) 0 13 (zg_l D 0 13)) rfl trivial ?_
          exact hr.2.2.2 _ _ _ rfl trivial ⟨rfl, (by rw [fs_rturn, if_neg h1, if_neg h43, if_neg h63, if_neg h82])⟩
def fs_rtold  (D : zx_D) : zx_D := if ¬ (zg_i D 9 (zn 0)) + 1 = zg_i D 0 38 then zp_i D 9 (zn 0) ((zg_i D 9 (zn 0)) + 1) else zp_l (zp_l (zp_i D 9 (zn 0) ((zg_i D 9 (zn 0)) + 1)) 0 39 (zg_l D 0 17)) 0 40 (zg_l D 0 18)
set_option maxRecDepth 100000 in
set_option maxHeartbeats 4000000 in
theorem t_rtold {l : Launch} {E : zx_E} {d : Nat}  (D : zx_D)  : zx_MR l E 140 d [.ref 0] ([], D) (fun v S => v = none ∧ S = ([], fs_rtold D)) := by
  refine zx_ofR (K := ck_R_told) rfl (by decide +kernel) rfl ok_R_told (Nat.le_of_ble_eq_true rfl) (fun Zp hr => ?_)
  show Zp (0, [some (.ref 0)], [], [], D)
  refine hr.1 14 True _ _ (20, [some (.ref 0)], [.int (zg_i D 0 38), .int ((zg_i D 9 (zn 0)) + 1)], [], zp_i D 9 (zn 0) ((zg_i D 9 (zn 0)) + 1)) rfl ⟨⟨⟨trivial, (zin (by decide) (by decide : (0 : Int32) < 11) rfl)⟩, (zin (by decide) (by decide : (0 : Int32) < 11) rfl)⟩, (zin (by decide) (by decide : (0 : Int32) < 11) rfl)⟩ ?_
  refine hr.2.1 _ (¬ (zg_i D 9 (zn 0)) + 1 = zg_i D 0 38) _ _ rfl (fun h20 => ?_) (fun h20 => ?_)
  · skip
    exact hr.2.2.2 _ _ _ rfl trivial ⟨rfl, (by rw [fs_rtold, if_pos h20])⟩
  · skip
    refine hr.1 8 True _ _ (39, [some (.ref 0)], [], [], zp_l (zp_l (zp_i D 9 (zn 0) ((zg_i D 9 (zn 0)) + 1)) 0 39 (zg_l D 0 17)) 0 40 (zg_l D 0 18)) rfl trivial ?_
    exact hr.2.2.2 _ _ _ rfl trivial ⟨rfl, (by rw [fs_rtold, if_neg h20])⟩
def fs_rshift  (D : zx_D) : zx_D := if ¬ zg_i D 0 22 = 0 then D else if zg_l D 0 17 < 16777216 then if zg_i D 0 19 < zg_i D 0 20 then zp_i (zp_l (zp_l D 0 17 ((zg_l D 0 17) * 256)) 0 18 (((zg_l D 0 18) * 256) + (((zg_i D 2 (zn (zg_i D 0 19)))).toInt64))) 0 19 ((zg_i D 0 19) + 1) else zp_i D 0 22 1 else D
set_option maxRecDepth 100000 in
set_option maxHeartbeats 4000000 in
theorem t_rshift {l : Launch} {E : zx_E} {d : Nat}  (D : zx_D) (hn : vp_in (zg_i D 0 19) 640) : zx_MR l E 139 d [.ref 0] ([], D) (fun v S => v = none ∧ S = ([], fs_rshift D)) := by
  refine zx_ofR (K := ck_R_shift) rfl (by decide +kernel) rfl ok_R_shift (Nat.le_of_ble_eq_true rfl) (fun Zp hr => ?_)
  show Zp (0, [some (.ref 0)], [], [], D)
  refine hr.1 2 True _ _ (4, [some (.ref 0)], [.int (zg_i D 0 22)], [], D) rfl trivial ?_
  refine hr.2.1 _ (¬ zg_i D 0 22 = 0) _ _ rfl (fun h4 => ?_) (fun h4 => ?_)
  · skip
    exact hr.2.2.2 _ _ _ rfl trivial ⟨rfl, (by rw [fs_rshift, if_pos h4])⟩
  · skip
    refine hr.1 3 True _ _ (14, [some (.ref 0)], [.long 16777216, .long (zg_l D 0 17)], [], D) rfl trivial ?_
    refine hr.2.1 _ (zg_l D 0 17 < 16777216) _ _ rfl (fun h14 => ?_) (fun h14 => ?_)
    · skip
      refine hr.1 4 True _ _ (27, [some (.ref 0)], [.int (zg_i D 0 20), .int (zg_i D 0 19)], [], D) rfl trivial ?_
      refine hr.2.1 _ (zg_i D 0 19 < zg_i D 0 20) _ _ rfl (fun h27 => ?_) (fun h27 => ?_)
      · skip
        refine hr.1 25 True _ _ (81, [some (.ref 0)], [], [], zp_i (zp_l (zp_l D 0 17 ((zg_l D 0 17) * 256)) 0 18 (((zg_l D 0 18) * 256) + (((zg_i D 2 (zn (zg_i D 0 19)))).toInt64))) 0 19 ((zg_i D 0 19) + 1)) rfl ⟨trivial, hn⟩ ?_
        exact hr.2.2.2 _ _ _ rfl trivial ⟨rfl, (by rw [fs_rshift, if_neg h4, if_pos h14, if_pos h27])⟩
      · skip
        refine hr.1 3 True _ _ (35, [some (.ref 0)], [], [], zp_i D 0 22 1) rfl ⟨trivial, Or.inr rfl⟩ ?_
        exact hr.2.2.2 _ _ _ rfl trivial ⟨rfl, (by rw [fs_rshift, if_neg h4, if_pos h14, if_neg h27])⟩
    · skip
      exact hr.2.2.2 _ _ _ rfl trivial ⟨rfl, (by rw [fs_rshift, if_neg h4, if_neg h14])⟩
def fs_rlearn0 (i : Int32) (D : zx_D) : zx_D := zp_i D 5 (zn i) ((zg_i D 5 (zn i)) + ((2048 - (zg_i D 5 (zn i))) / 32))
set_option maxRecDepth 100000 in
set_option maxHeartbeats 4000000 in
theorem t_rlearn0 {l : Launch} {E : zx_E} {d : Nat} (i : Int32) (D : zx_D) (hi : vp_in i 8328) : zx_MR l E 142 d [.ref 0, .int i, .int 0] ([], D) (fun v S => v = none ∧ S = ([], fs_rlearn0 i D)) := by
  refine zx_ofR (K := ck_R_learn) rfl (by decide +kernel) rfl ok_R_learn (Nat.le_of_ble_eq_true rfl) (fun Zp hr => ?_)
  show Zp (0, [some (.ref 0), some (.int i), some (.int 0), none], [], [], D)
  refine hr.1 9 True _ _ (13, [some (.ref 0), some (.int i), some (.int 0), some (.int (zg_i D 5 (zn i)))], [.int 0, .int i, .ref 5], [], D) rfl ⟨trivial, hi⟩ ?_
  refine hr.2.1 _ ((0 : Int32) = 0) _ _ rfl (fun _ => ?_) (fun h => absurd (by decide) h)
  refine hr.1 8 True _ _ (36, [some (.ref 0), some (.int i), some (.int 0), some (.int (zg_i D 5 (zn i)))], [], [], zp_i D 5 (zn i) ((zg_i D 5 (zn i)) + ((2048 - (zg_i D 5 (zn i))) / 32))) rfl ⟨trivial, hi⟩ ?_
  exact hr.2.2.2 _ _ _ rfl trivial ⟨rfl, (by rw [fs_rlearn0])⟩
def fs_rlearn1 (i : Int32) (D : zx_D) : zx_D := zp_i D 5 (zn i) ((zg_i D 5 (zn i)) - ((zg_i D 5 (zn i)) / 32))
set_option maxRecDepth 100000 in
set_option maxHeartbeats 4000000 in
theorem t_rlearn1 {l : Launch} {E : zx_E} {d : Nat} (i : Int32) (D : zx_D) (hi : vp_in i 8328) : zx_MR l E 142 d [.ref 0, .int i, .int 1] ([], D) (fun v S => v = none ∧ S = ([], fs_rlearn1 i D)) := by
  refine zx_ofR (K := ck_R_learn) rfl (by decide +kernel) rfl ok_R_learn (Nat.le_of_ble_eq_true rfl) (fun Zp hr => ?_)
  show Zp (0, [some (.ref 0), some (.int i), some (.int 1), none], [], [], D)
  refine hr.1 9 True _ _ (13, [some (.ref 0), some (.int i), some (.int 1), some (.int (zg_i D 5 (zn i)))], [.int 1, .int i, .ref 5], [], D) rfl ⟨trivial, hi⟩ ?_
  refine hr.2.1 _ ((1 : Int32) = 0) _ _ rfl (fun h => absurd h (by decide)) (fun _ => ?_)
  refine hr.1 7 True _ _ (36, [some (.ref 0), some (.int i), some (.int 1), some (.int (zg_i D 5 (zn i)))], [], [], zp_i D 5 (zn i) ((zg_i D 5 (zn i)) - ((zg_i D 5 (zn i)) / 32))) rfl ⟨trivial, hi⟩ ?_
  exact hr.2.2.2 _ _ _ rfl trivial ⟨rfl, (by rw [fs_rlearn1])⟩
def fs_rgive (b : Int32) (D : zx_D) : zx_D := zp_i (zp_i (zp_i D 3 (zn (zg_i D 0 5)) b) 0 5 ((zg_i D 0 5) + 1)) 0 21 ((zg_i D 0 21) - 1)
set_option maxRecDepth 100000 in
set_option maxHeartbeats 4000000 in
theorem t_rgive {l : Launch} {E : zx_E} {d : Nat} (b : Int32) (D : zx_D) (hm : vp_in (zg_i D 0 5) 400) : zx_MR l E 148 d [.ref 0, .int b] ([], D) (fun v S => v = none ∧ S = ([], fs_rgive b D)) := by
  refine zx_ofR (K := ck_R_give) rfl (by decide +kernel) rfl ok_R_give (Nat.le_of_ble_eq_true rfl) (fun Zp hr => ?_)
  show Zp (0, [some (.ref 0), some (.int b)], [], [], D)
  refine hr.1 18 True _ _ (30, [some (.ref 0), some (.int b)], [], [], zp_i (zp_i (zp_i D 3 (zn (zg_i D 0 5)) b) 0 5 ((zg_i D 0 5) + 1)) 0 21 ((zg_i D 0 21) - 1)) rfl ⟨trivial, hm⟩ ?_
  exact hr.2.2.2 _ _ _ rfl trivial ⟨rfl, (by rw [fs_rgive])⟩
def fs_rwrite (b : Int32) (D : zx_D) : zx_D := if 640 ≤ zg_i D 0 7 then zp_i D 0 7 ((zg_i D 0 7) + 1) else zp_i (zp_i D 4 (zn (zg_i D 0 7)) b) 0 7 ((zg_i D 0 7) + 1)
set_option maxRecDepth 100000 in
set_option maxHeartbeats 4000000 in
theorem t_rwrite {l : Launch} {E : zx_E} {d : Nat} (b : Int32) (D : zx_D) (h0 : 0 ≤ zg_i D 0 7) : zx_MR l E 171 d [.ref 0, .int b] ([], D) (fun v S => v = none ∧ S = ([], fs_rwrite b D)) := by
  refine zx_ofR (K := ck_R_write) rfl (by decide +kernel) rfl ok_R_write (Nat.le_of_ble_eq_true rfl) (fun Zp hr => ?_)
  show Zp (0, [some (.ref 0), some (.int b)], [], [], D)
  refine hr.1 3 True _ _ (7, [some (.ref 0), some (.int b)], [.int 640, .int (zg_i D 0 7)], [], D) rfl trivial ?_
  refine hr.2.1 _ (640 ≤ zg_i D 0 7) _ _ rfl (fun h7 => ?_) (fun h7 => ?_)
  · skip
    refine hr.1 6 True _ _ (30, [some (.ref 0), some (.int b)], [], [], zp_i D 0 7 ((zg_i D 0 7) + 1)) rfl trivial ?_
    exact hr.2.2.2 _ _ _ rfl trivial ⟨rfl, (by rw [fs_rwrite, if_pos h7])⟩
  · skip
    refine hr.1 12 True _ _ (30, [some (.ref 0), some (.int b)], [], [], zp_i (zp_i D 4 (zn (zg_i D 0 7)) b) 0 7 ((zg_i D 0 7) + 1)) rfl ⟨trivial, (zin h0 (Int32.not_le.mp h7) rfl)⟩ ?_
    exact hr.2.2.2 _ _ _ rfl trivial ⟨rfl, (by rw [fs_rwrite, if_neg h7])⟩
def fs_rshiftOut  (D : zx_D) : zx_D := if zg_l D 0 17 < 16777216 then if ¬ zg_i D 0 27 = 0 then zp_i (zp_l D 0 17 ((zg_l D 0 17) * 256)) 0 27 1 else if (zg_i D 0 25) + 1 < zg_i D 0 26 then zp_i (zp_i (zp_i (zp_l D 0 17 ((zg_l D 0 17) * 256)) 0 27 0) 6 (zn (zg_i D 0 25)) 0) 0 25 ((zg_i D 0 25) + 1) else zp_i (zp_l D 0 17 ((zg_l D 0 17) * 256)) 0 27 1 else D
set_option maxRecDepth 100000 in
set_option maxHeartbeats 4000000 in
theorem t_rshiftOut {l : Launch} {E : zx_E} {d : Nat}  (D : zx_D) (hl : vp_in (zg_i D 0 25) 400) : zx_MR l E 158 d [.ref 0] ([], D) (fun v S => v = none ∧ S = ([], fs_rshiftOut D)) := by
  refine zx_ofR (K := ck_R_shiftOut) rfl (by decide +kernel) rfl ok_R_shiftOut (Nat.le_of_ble_eq_true rfl) (fun Zp hr => ?_)
  show Zp (0, [some (.ref 0)], [], [], D)
  refine hr.1 3 True _ _ (7, [some (.ref 0)], [.long 16777216, .long (zg_l D 0 17)], [], D) rfl trivial ?_
  refine hr.2.1 _ (zg_l D 0 17 < 16777216) _ _ rfl (fun h7 => ?_) (fun h7 => ?_)
  · skip
    refine hr.1 9 True _ _ (29, [some (.ref 0)], [.int (zg_i D 0 27), .ref 0], [], zp_l D 0 17 ((zg_l D 0 17) * 256)) rfl trivial ?_
    refine hr.2.1 _ (¬ zg_i D 0 27 = 0) _ _ rfl (fun h29 => ?_) (fun h29 => ?_)
    · skip
      refine hr.1 5 True _ _ (57, [some (.ref 0)], [.int 1], [], zp_i (zp_l D 0 17 ((zg_l D 0 17) * 256)) 0 27 1) rfl ⟨trivial, Or.inr rfl⟩ ?_
      refine hr.2.1 _ (¬ (1 : Int32) = 0) _ _ rfl (fun _ => ?_) (fun h => absurd (by decide) h)
      exact hr.2.2.2 _ _ _ rfl trivial ⟨rfl, (by rw [fs_rshiftOut, if_pos h7, if_pos h29])⟩
    · skip
      refine hr.1 6 True _ _ (42, [some (.ref 0)], [.int (zg_i D 0 26), .int ((zg_i D 0 25) + 1), .ref 0], [], zp_l D 0 17 ((zg_l D 0 17) * 256)) rfl trivial ?_
      refine hr.2.1 _ ((zg_i D 0 25) + 1 < zg_i D 0 26) _ _ rfl (fun h42 => ?_) (fun h42 => ?_)
      · skip
        refine hr.1 4 True _ _ (57, [some (.ref 0)], [.int 0], [], zp_i (zp_l D 0 17 ((zg_l D 0 17) * 256)) 0 27 0) rfl ⟨trivial, Or.inl rfl⟩ ?_
        refine hr.2.1 _ (¬ (0 : Int32) = 0) _ _ rfl (fun h => absurd h (by decide)) (fun _ => ?_)
        refine hr.1 12 True _ _ (80, [some (.ref 0)], [], [], zp_i (zp_i (zp_i (zp_l D 0 17 ((zg_l D 0 17) * 256)) 0 27 0) 6 (zn (zg_i D 0 25)) 0) 0 25 ((zg_i D 0 25) + 1)) rfl ⟨trivial, hl⟩ ?_
        exact hr.2.2.2 _ _ _ rfl trivial ⟨rfl, (by rw [fs_rshiftOut, if_pos h7, if_neg h29, if_pos h42])⟩
      · skip
        refine hr.1 5 True _ _ (57, [some (.ref 0)], [.int 1], [], zp_i (zp_l D 0 17 ((zg_l D 0 17) * 256)) 0 27 1) rfl ⟨trivial, Or.inr rfl⟩ ?_
        refine hr.2.1 _ (¬ (1 : Int32) = 0) _ _ rfl (fun _ => ?_) (fun h => absurd (by decide) h)
        exact hr.2.2.2 _ _ _ rfl trivial ⟨rfl, (by rw [fs_rshiftOut, if_pos h7, if_neg h29, if_neg h42])⟩
  · skip
    exact hr.2.2.2 _ _ _ rfl trivial ⟨rfl, (by rw [fs_rshiftOut, if_neg h7])⟩
def fv_rchange (i b : Int32) (D : zx_D) : Int32 := if i < 0 then -1 else if zg_i D 0 3 ≤ i then -1 else if b < 0 then -1 else if b ≤ 255 then zg_i D 2 (zn i) else -1
def fs_rchange (i b : Int32) (D : zx_D) : zx_D := if i < 0 then D else if zg_i D 0 3 ≤ i then D else if b < 0 then D else if b ≤ 255 then zp_i D 2 (zn i) b else D
set_option maxRecDepth 100000 in
set_option maxHeartbeats 4000000 in
theorem t_rchange {l : Launch} {E : zx_E} {d : Nat} (i b : Int32) (D : zx_D) (hin : 0 ≤ i → i < zg_i D 0 3 → vp_in i 640) : zx_MR l E 105 d [.ref 0, .int i, .int b] ([], D) (fun v S => v = some (.int (fv_rchange i b D)) ∧ S = ([], fs_rchange i b D)) := by
  refine zx_ofR (K := ck_R_change) rfl (by decide +kernel) rfl ok_R_change (Nat.le_of_ble_eq_true rfl) (fun Zp hr => ?_)
  show Zp (0, [some (.ref 0), some (.int i), some (.int b), none], [], [], D)
  refine hr.1 1 True _ _ (1, [some (.ref 0), some (.int i), some (.int b), none], [.int i], [], D) rfl trivial ?_
  refine hr.2.1 _ (i < 0) _ _ rfl (fun h1 => ?_) (fun h1 => ?_)
  · skip
    refine hr.1 1 True _ _ (24, [some (.ref 0), some (.int i), some (.int b), none], [.int (-1)], [], D) rfl trivial ?_
    exact hr.2.2.2 _ _ _ rfl trivial ⟨(by rw [fv_rchange, if_pos h1]), (by rw [fs_rchange, if_pos h1])⟩
  · skip
    refine hr.1 3 True _ _ (9, [some (.ref 0), some (.int i), some (.int b), none], [.int (zg_i D 0 3), .int i], [], D) rfl trivial ?_
    refine hr.2.1 _ (zg_i D 0 3 ≤ i) _ _ rfl (fun h9 => ?_) (fun h9 => ?_)
    · skip
      refine hr.1 1 True _ _ (24, [some (.ref 0), some (.int i), some (.int b), none], [.int (-1)], [], D) rfl trivial ?_
      exact hr.2.2.2 _ _ _ rfl trivial ⟨(by rw [fv_rchange, if_neg h1, if_pos h9]), (by rw [fs_rchange, if_neg h1, if_pos h9])⟩
    · skip
      refine hr.1 1 True _ _ (13, [some (.ref 0), some (.int i), some (.int b), none], [.int b], [], D) rfl trivial ?_
      refine hr.2.1 _ (b < 0) _ _ rfl (fun h13 => ?_) (fun h13 => ?_)
      · skip
        refine hr.1 1 True _ _ (24, [some (.ref 0), some (.int i), some (.int b), none], [.int (-1)], [], D) rfl trivial ?_
        exact hr.2.2.2 _ _ _ rfl trivial ⟨(by rw [fv_rchange, if_neg h1, if_neg h9, if_pos h13]), (by rw [fs_rchange, if_neg h1, if_neg h9, if_pos h13])⟩
      · skip
        refine hr.1 2 True _ _ (20, [some (.ref 0), some (.int i), some (.int b), none], [.int 255, .int b], [], D) rfl trivial ?_
        refine hr.2.1 _ (b ≤ 255) _ _ rfl (fun h20 => ?_) (fun h20 => ?_)
        · skip
          refine hr.1 11 True _ _ (40, [some (.ref 0), some (.int i), some (.int b), some (.int (zg_i D 2 (zn i)))], [.int (zg_i D 2 (zn i))], [], zp_i D 2 (zn i) b) rfl ⟨⟨trivial, (hin (Int32.not_lt.mp h1) (Int32.not_le.mp h9))⟩, (hin (Int32.not_lt.mp h1) (Int32.not_le.mp h9))⟩ ?_
          exact hr.2.2.2 _ _ _ rfl trivial ⟨(by rw [fv_rchange, if_neg h1, if_neg h9, if_neg h13, if_pos h20]), (by rw [fs_rchange, if_neg h1, if_neg h9, if_neg h13, if_pos h20])⟩
        · skip
          refine hr.1 1 True _ _ (24, [some (.ref 0), some (.int i), some (.int b), none], [.int (-1)], [], D) rfl trivial ?_
          exact hr.2.2.2 _ _ _ rfl trivial ⟨(by rw [fv_rchange, if_neg h1, if_neg h9, if_neg h13, if_neg h20]), (by rw [fs_rchange, if_neg h1, if_neg h9, if_neg h13, if_neg h20])⟩
def fv_rat0 (i : Int32) (D : zx_D) : Int32 := if i < 0 then -1 else if i < zg_i D 0 1 then zg_i D 1 (zn i) else -1
set_option maxRecDepth 100000 in
set_option maxHeartbeats 4000000 in
theorem t_rat0 {l : Launch} {E : zx_E} {d : Nat} (i : Int32) (D : zx_D) (hin : 0 ≤ i → i < zg_i D 0 1 → vp_in i 400) : zx_MR l E 106 d [.ref 0, .int i, .int 0] ([], D) (fun v S => v = some (.int (fv_rat0 i D)) ∧ S = ([], D)) := by
  refine zx_ofR (K := ck_R_at) rfl (by decide +kernel) rfl ok_R_at (Nat.le_of_ble_eq_true rfl) (fun Zp hr => ?_)
  show Zp (0, [some (.ref 0), some (.int i), some (.int 0)], [], [], D)
  refine hr.1 1 True _ _ (1, [some (.ref 0), some (.int i), some (.int 0)], [.int i], [], D) rfl trivial ?_
  refine hr.2.1 _ (i < 0) _ _ rfl (fun h1 => ?_) (fun h1 => ?_)
  · skip
    refine hr.1 1 True _ _ (24, [some (.ref 0), some (.int i), some (.int 0)], [.int (-1)], [], D) rfl trivial ?_
    exact hr.2.2.2 _ _ _ rfl trivial ⟨(by rw [fv_rat0, if_pos h1]), rfl⟩
  · skip
    refine hr.1 2 True _ _ (6, [some (.ref 0), some (.int i), some (.int 0)], [.int 0, .int i], [], D) rfl trivial ?_
    refine hr.2.1 _ ((0 : Int32) = 0) _ _ rfl (fun _ => ?_) (fun h => absurd (by decide) h)
    refine hr.1 2 True _ _ (20, [some (.ref 0), some (.int i), some (.int 0)], [.int (zg_i D 0 1), .int i], [], D) rfl trivial ?_
    refine hr.2.1 _ (i < zg_i D 0 1) _ _ rfl (fun h20 => ?_) (fun h20 => ?_)
    · skip
      refine hr.1 1 True _ _ (26, [some (.ref 0), some (.int i), some (.int 0)], [.int 0], [], D) rfl trivial ?_
      refine hr.2.1 _ ((0 : Int32) = 0) _ _ rfl (fun _ => ?_) (fun h => absurd (by decide) h)
      refine hr.1 4 True _ _ (44, [some (.ref 0), some (.int i), some (.int 0)], [.int (zg_i D 1 (zn i))], [], D) rfl ⟨trivial, (hin (Int32.not_lt.mp h1) h20)⟩ ?_
      exact hr.2.2.2 _ _ _ rfl trivial ⟨(by rw [fv_rat0, if_neg h1, if_pos h20]), rfl⟩
    · skip
      refine hr.1 1 True _ _ (24, [some (.ref 0), some (.int i), some (.int 0)], [.int (-1)], [], D) rfl trivial ?_
      exact hr.2.2.2 _ _ _ rfl trivial ⟨(by rw [fv_rat0, if_neg h1, if_neg h20]), rfl⟩
def fv_rat1 (i : Int32) (D : zx_D) : Int32 := if i < 0 then -1 else if i < zg_i D 0 3 then zg_i D 2 (zn i) else -1
set_option maxRecDepth 100000 in
set_option maxHeartbeats 4000000 in
theorem t_rat1 {l : Launch} {E : zx_E} {d : Nat} (i : Int32) (D : zx_D) (hin : 0 ≤ i → i < zg_i D 0 3 → vp_in i 640) : zx_MR l E 106 d [.ref 0, .int i, .int 1] ([], D) (fun v S => v = some (.int (fv_rat1 i D)) ∧ S = ([], D)) := by
  refine zx_ofR (K := ck_R_at) rfl (by decide +kernel) rfl ok_R_at (Nat.le_of_ble_eq_true rfl) (fun Zp hr => ?_)
  show Zp (0, [some (.ref 0), some (.int i), some (.int 1)], [], [], D)
  refine hr.1 1 True _ _ (1, [some (.ref 0), some (.int i), some (.int 1)], [.int i], [], D) rfl trivial ?_
  refine hr.2.1 _ (i < 0) _ _ rfl (fun h1 => ?_) (fun h1 => ?_)
  · skip
    refine hr.1 1 True _ _ (24, [some (.ref 0), some (.int i), some (.int 1)], [.int (-1)], [], D) rfl trivial ?_
    exact hr.2.2.2 _ _ _ rfl trivial ⟨(by rw [fv_rat1, if_pos h1]), rfl⟩
  · skip
    refine hr.1 2 True _ _ (6, [some (.ref 0), some (.int i), some (.int 1)], [.int 1, .int i], [], D) rfl trivial ?_
    refine hr.2.1 _ ((1 : Int32) = 0) _ _ rfl (fun h => absurd h (by decide)) (fun _ => ?_)
    refine hr.1 3 True _ _ (20, [some (.ref 0), some (.int i), some (.int 1)], [.int (zg_i D 0 3), .int i], [], D) rfl trivial ?_
    refine hr.2.1 _ (i < zg_i D 0 3) _ _ rfl (fun h20 => ?_) (fun h20 => ?_)
    · skip
      refine hr.1 1 True _ _ (26, [some (.ref 0), some (.int i), some (.int 1)], [.int 1], [], D) rfl trivial ?_
      refine hr.2.1 _ ((1 : Int32) = 0) _ _ rfl (fun h => absurd h (by decide)) (fun _ => ?_)
      refine hr.1 5 True _ _ (44, [some (.ref 0), some (.int i), some (.int 1)], [.int (zg_i D 2 (zn i))], [], D) rfl ⟨trivial, (hin (Int32.not_lt.mp h1) h20)⟩ ?_
      exact hr.2.2.2 _ _ _ rfl trivial ⟨(by rw [fv_rat1, if_neg h1, if_pos h20]), rfl⟩
    · skip
      refine hr.1 1 True _ _ (24, [some (.ref 0), some (.int i), some (.int 1)], [.int (-1)], [], D) rfl trivial ?_
      exact hr.2.2.2 _ _ _ rfl trivial ⟨(by rw [fv_rat1, if_neg h1, if_neg h20]), rfl⟩
def fv_rheadByte (s : Int32) (D : zx_D) : Int32 := if zg_i D 0 29 = 0 then if zg_i D 0 28 < s then zg_i D 2 (zn (((zg_i D 0 28) + 1) - 1)) else 0 else 0
def fs_rheadByte (s : Int32) (D : zx_D) : zx_D := if zg_i D 0 29 = 0 then if zg_i D 0 28 < s then zp_i D 0 28 ((zg_i D 0 28) + 1) else fs_rfail (-3) (zg_i D 0 28) D else D
set_option maxRecDepth 100000 in
set_option maxHeartbeats 4000000 in
theorem t_rheadByte {l : Launch} {E : zx_E} {d : Nat} (s : Int32) (D : zx_D) (hin : vp_in (zg_i D 0 28 + 1 - 1) 640) : zx_MR l E 122 (d + 1) [.ref 0, .int s] ([], D) (fun v S => v = some (.int (fv_rheadByte s D)) ∧ S = ([], fs_rheadByte s D)) := by
  refine zx_ofR (K := ck_R_headByte) rfl (by decide +kernel) rfl ok_R_headByte (Nat.le_of_ble_eq_true rfl) (fun Zp hr => ?_)
  show Zp (0, [some (.ref 0), some (.int s)], [], [], D)
  refine hr.1 2 True _ _ (4, [some (.ref 0), some (.int s)], [.int (zg_i D 0 29)], [], D) rfl trivial ?_
  refine hr.2.1 _ (zg_i D 0 29 = 0) _ _ rfl (fun h4 => ?_) (fun h4 => ?_)
  · skip
    refine hr.1 3 True _ _ (14, [some (.ref 0), some (.int s)], [.int s, .int (zg_i D 0 28)], [], D) rfl trivial ?_
    refine hr.2.1 _ (zg_i D 0 28 < s) _ _ rfl (fun h14 => ?_) (fun h14 => ?_)
    · skip
      refine hr.1 13 True _ _ (50, [some (.ref 0), some (.int s)], [.int (zg_i D 2 (zn (((zg_i D 0 28) + 1) - 1)))], [], zp_i D 0 28 ((zg_i D 0 28) + 1)) rfl ⟨trivial, hin⟩ ?_
      exact hr.2.2.2 _ _ _ rfl trivial ⟨(by rw [fv_rheadByte, if_pos h4, if_pos h14]), (by rw [fs_rheadByte, if_pos h4, if_pos h14])⟩
    · skip
      refine hr.1 4 True _ _ (24, [some (.ref 0), some (.int s)], [.int (zg_i D 0 28), .int (-3), .ref 0], [], D) rfl trivial ?_
      refine hr.2.2.1 _ _ _ _ _ d rfl (by omega) (t_rfail (-3) (zg_i D 0 28) D) (fun v S hq => ?_)
      obtain ⟨rfl, rfl⟩ := hq
      refine hr.1 1 True _ _ (28, [some (.ref 0), some (.int s)], [.int 0], [], fs_rfail (-3) (zg_i D 0 28) D) rfl trivial ?_
      exact hr.2.2.2 _ _ _ rfl trivial ⟨(by rw [fv_rheadByte, if_pos h4, if_neg h14]), (by rw [fs_rheadByte, if_pos h4, if_neg h14])⟩
  · skip
    refine hr.1 1 True _ _ (8, [some (.ref 0), some (.int s)], [.int 0], [], D) rfl trivial ?_
    exact hr.2.2.2 _ _ _ rfl trivial ⟨(by rw [fv_rheadByte, if_neg h4]), (by rw [fs_rheadByte, if_neg h4])⟩
