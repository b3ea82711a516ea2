/-! The reader: its start, and what a faulted cursor leaves alone -/
def ff_fill (q : Nat) (x : Int32) : Nat → Nat → zx_D → zx_D
  | 0, _, D => D
  | k + 1, j, D => ff_fill q x k (j + 1) (zp_i D q j x)
def ff_fillL (q : Nat) (x : Int64) : Nat → Nat → zx_D → zx_D
  | 0, _, D => D
  | k + 1, j, D => ff_fillL q x k (j + 1) (zp_l D q j x)
theorem ff_fill_i {q p i : Nat} {x : Int32} (h : p ≠ q) : ∀ {k j : Nat} {D : zx_D}, zg_i (ff_fill q x k j D) p i = zg_i D p i
  | 0, _, _ => rfl
  | k + 1, j, D => by
    have := ff_fill_i (x := x) (i := i) h (k := k) (j := j + 1) (D := zp_i D q j x)
    rw [zg_pi, if_neg (fun e => h e.1)] at this
    exact this
theorem ff_fill_2 {q : Nat} {x : Int32} : ∀ {k j : Nat} {D : zx_D}, (ff_fill q x k j D).2 = D.2
  | 0, _, _ => rfl
  | k + 1, j, D => by
    have := ff_fill_2 (q := q) (x := x) (k := k) (j := j + 1) (D := zp_i D q j x)
    exact this
set_option maxRecDepth 100000 in
set_option maxHeartbeats 4000000 in
theorem t_fill_14 {l : Launch} {E : zx_E} {d : Nat} {rf : List Nat} (x : Int32) (D : zx_D) : zx_MC l E 183 d [.ref 14, .int x] (rf, D) (fun v S => v = none ∧ S = (rf, ff_fill 14 x 11 0 D)) := by
  refine zx_ofC (K := ck_Arr_fill2) rfl (by decide +kernel) rfl ok_Arr_fill2 (Nat.le_of_ble_eq_true rfl) (fun Zp hr => ?_)
  show Zp (0, [some (.ref 14), some (.int x), none, none], [], rf, D)
  have loop : ∀ (k : Nat) (j : Nat) (D1 : zx_D), j + k = 11 → ff_fill 14 x k j D1 = ff_fill 14 x 11 0 D → Zp (5, [some (.ref 14), some (.int x), some (.int (nI j)), some (.int 11)], [], rf, D1) := by
    intro k
    induction k with
    | zero =>
      intro j D1 hj hf
      have hf : D1 = ff_fill 14 x 11 0 D := hf
      refine hr.1 2 True _ _ (7, [some (.ref 14), some (.int x), some (.int (nI j)), some (.int 11)], [.int 11, .int (nI j)], rf, D1) rfl trivial ?_
      refine hr.2.1 _ (11 ≤ nI j) _ _ rfl (fun _ => ?_) (fun h => absurd (by rw [show j = 11 by omega]; decide) h)
      exact hr.2.2.2 _ _ _ rfl trivial ⟨rfl, by rw [← hf]⟩
    | succ k ih =>
      intro j D1 hj hf
      refine hr.1 2 True _ _ (7, [some (.ref 14), some (.int x), some (.int (nI j)), some (.int 11)], [.int 11, .int (nI j)], rf, D1) rfl trivial ?_
      refine hr.2.1 _ (11 ≤ nI j) _ _ rfl (fun h => absurd h (by rw [show (11 : Int32) = nI 11 from rfl, nI_leI (by omega) (by omega)]; omega)) (fun _ => ?_)
      refine hr.1 6 True _ _ (5, [some (.ref 14), some (.int x), some (.int ((nI j) + 1)), some (.int 11)], [], rf, zp_i D1 14 (zn (nI j)) x) rfl ⟨trivial, (pk_in j 11 (by omega))⟩ ?_
      rw [nI_1, zn_nI (by omega)]
      exact ih (j + 1) _ (by omega) hf
  refine hr.1 5 True _ _ (5, [some (.ref 14), some (.int x), some (.int 0), some (.int 11)], [], rf, D) rfl trivial ?_
  exact loop 11 0 D rfl rfl
set_option maxRecDepth 100000 in
set_option maxHeartbeats 4000000 in
theorem t_fill_21 {l : Launch} {E : zx_E} {d : Nat} {rf : List Nat} (x : Int32) (D : zx_D) : zx_MC l E 183 d [.ref 21, .int x] (rf, D) (fun v S => v = none ∧ S = (rf, ff_fill 21 x 400 0 D)) := by
  refine zx_ofC (K := ck_Arr_fill2) rfl (by decide +kernel) rfl ok_Arr_fill2 (Nat.le_of_ble_eq_true rfl) (fun Zp hr => ?_)
  show Zp (0, [some (.ref 21), some (.int x), none, none], [], rf, D)
  have loop : ∀ (k : Nat) (j : Nat) (D1 : zx_D), j + k = 400 → ff_fill 21 x k j D1 = ff_fill 21 x 400 0 D → Zp (5, [some (.ref 21), some (.int x), some (.int (nI j)), some (.int 400)], [], rf, D1) := by
    intro k
    induction k with
    | zero =>
      intro j D1 hj hf
      have hf : D1 = ff_fill 21 x 400 0 D := hf
      refine hr.1 2 True _ _ (7, [some (.ref 21), some (.int x), some (.int (nI j)), some (.int 400)], [.int 400, .int (nI j)], rf, D1) rfl trivial ?_
      refine hr.2.1 _ (400 ≤ nI j) _ _ rfl (fun _ => ?_) (fun h => absurd (by rw [show j = 400 by omega]; decide) h)
      exact hr.2.2.2 _ _ _ rfl trivial ⟨rfl, by rw [← hf]⟩
    | succ k ih =>
      intro j D1 hj hf
      refine hr.1 2 True _ _ (7, [some (.ref 21), some (.int x), some (.int (nI j)), some (.int 400)], [.int 400, .int (nI j)], rf, D1) rfl trivial ?_
      refine hr.2.1 _ (400 ≤ nI j) _ _ rfl (fun h => absurd h (by rw [show (400 : Int32) = nI 400 from rfl, nI_leI (by omega) (by omega)]; omega)) (fun _ => ?_)
      refine hr.1 6 True _ _ (5, [some (.ref 21), some (.int x), some (.int ((nI j) + 1)), some (.int 400)], [], rf, zp_i D1 21 (zn (nI j)) x) rfl ⟨trivial, (pk_in j 400 (by omega))⟩ ?_
      rw [nI_1, zn_nI (by omega)]
      exact ih (j + 1) _ (by omega) hf
  refine hr.1 5 True _ _ (5, [some (.ref 21), some (.int x), some (.int 0), some (.int 400)], [], rf, D) rfl trivial ?_
  exact loop 400 0 D rfl rfl
set_option maxRecDepth 100000 in
set_option maxHeartbeats 4000000 in
theorem t_fill_8 {l : Launch} {E : zx_E} {d : Nat} {rf : List Nat} (x : Int64) (D : zx_D) : zx_MC l E 182 d [.ref 8, .long x] (rf, D) (fun v S => v = none ∧ S = (rf, ff_fillL 8 x 4 0 D)) := by
  refine zx_ofC (K := ck_Arr_fill) rfl (by decide +kernel) rfl ok_Arr_fill (Nat.le_of_ble_eq_true rfl) (fun Zp hr => ?_)
  show Zp (0, [some (.ref 8), some (.long x), none, none, none], [], rf, D)
  have loop : ∀ (k : Nat) (j : Nat) (D1 : zx_D), j + k = 4 → ff_fillL 8 x k j D1 = ff_fillL 8 x 4 0 D → Zp (6, [some (.ref 8), some (.long x), none, some (.int (nI j)), some (.int 4)], [], rf, D1) := by
    intro k
    induction k with
    | zero =>
      intro j D1 hj hf
      have hf : D1 = ff_fillL 8 x 4 0 D := hf
      refine hr.1 2 True _ _ (9, [some (.ref 8), some (.long x), none, some (.int (nI j)), some (.int 4)], [.int 4, .int (nI j)], rf, D1) rfl trivial ?_
      refine hr.2.1 _ (4 ≤ nI j) _ _ rfl (fun _ => ?_) (fun h => absurd (by rw [show j = 4 by omega]; decide) h)
      exact hr.2.2.2 _ _ _ rfl trivial ⟨rfl, by rw [← hf]⟩
    | succ k ih =>
      intro j D1 hj hf
      refine hr.1 2 True _ _ (9, [some (.ref 8), some (.long x), none, some (.int (nI j)), some (.int 4)], [.int 4, .int (nI j)], rf, D1) rfl trivial ?_
      refine hr.2.1 _ (4 ≤ nI j) _ _ rfl (fun h => absurd h (by rw [show (4 : Int32) = nI 4 from rfl, nI_leI (by omega) (by omega)]; omega)) (fun _ => ?_)
      refine hr.1 6 True _ _ (6, [some (.ref 8), some (.long x), none, some (.int ((nI j) + 1)), some (.int 4)], [], rf, zp_l D1 8 (zn (nI j)) x) rfl ⟨trivial, (pk_in j 4 (by omega))⟩ ?_
      rw [nI_1, zn_nI (by omega)]
      exact ih (j + 1) _ (by omega) hf
  refine hr.1 5 True _ _ (6, [some (.ref 8), some (.long x), none, some (.int 0), some (.int 4)], [], rf, D) rfl trivial ?_
  exact loop 4 0 D rfl rfl
def fs_forget  (D : zx_D) : zx_D := zp_l (zp_l (zp_i D 5 8 0) 5 10 (-1)) 5 11 (-1)
set_option maxRecDepth 100000 in
set_option maxHeartbeats 4000000 in
theorem t_forget {l : Launch} {E : zx_E} {d : Nat} {rf : List Nat}  (D : zx_D)  : zx_MC l E 43 d [.ref 5] (rf, D) (fun v S => v = none ∧ S = (rf, fs_forget D)) := by
  refine zx_ofC (K := ck_Src_forget) rfl (by decide +kernel) rfl ok_Src_forget (Nat.le_of_ble_eq_true rfl) (fun Zp hr => ?_)
  show Zp (0, [some (.ref 5)], [], rf, D)
  refine hr.1 9 True _ _ (19, [some (.ref 5)], [], rf, zp_l (zp_l (zp_i D 5 8 0) 5 10 (-1)) 5 11 (-1)) rfl trivial ?_
  exact hr.2.2.2 _ _ _ rfl trivial ⟨rfl, (by rw [fs_forget])⟩
def fs_ubegin  (D : zx_D) : zx_D := (fs_forget (ff_fill 14 0 11 0 (zp_i (zp_i (fs_cbegin D) 10 1 0) 10 2 0)))
set_option maxRecDepth 100000 in
set_option maxHeartbeats 4000000 in
theorem t_ubegin {l : Launch} {E : zx_E} {d : Nat} {cb sd ln pp : Nat}  (D : zx_D)  : zx_MC l E 69 (d + 1) [.ref 9, .ref 3] ([cb, sd, ln, pp], D) (fun v S => v = none ∧ S = ([4, sd, ln, pp], fs_ubegin D)) := by
  refine zx_ofC (K := ck_Unp_begin) rfl (by decide +kernel) rfl ok_Unp_begin (Nat.le_of_ble_eq_true rfl) (fun Zp hr => ?_)
  show Zp (0, [some (.ref 9), some (.ref 3)], [], [cb, sd, ln, pp], D)
  refine hr.1 3 True _ _ (5, [some (.ref 9), some (.ref 3)], [.ref 3, .ref 12], [cb, sd, ln, pp], D) rfl trivial ?_
  refine hr.2.2.1 _ _ _ _ _ d rfl (by omega) (t_cbegin D) (fun v S hq => ?_)
  obtain ⟨rfl, rfl⟩ := hq
  generalize hD1 : fs_cbegin D = D1
  refine hr.1 2 True _ _ (12, [some (.ref 9), some (.ref 3)], [.ref 10], [4, sd, ln, pp], D1) rfl trivial ?_
  refine hr.2.2.1 _ _ _ _ _ d rfl (by omega) (t_clear_10 D1) (fun v S hq => ?_)
  obtain ⟨rfl, rfl⟩ := hq
  refine hr.1 3 True _ _ (20, [some (.ref 9), some (.ref 3)], [.int 0, .ref 14], [4, sd, ln, pp], zp_i (zp_i D1 10 1 0) 10 2 0) rfl trivial ?_
  refine hr.2.2.1 _ _ _ _ _ d rfl (by omega) (t_fill_14 0 (zp_i (zp_i D1 10 1 0) 10 2 0)) (fun v S hq => ?_)
  obtain ⟨rfl, rfl⟩ := hq
  generalize hD2 : ff_fill 14 0 11 0 (zp_i (zp_i D1 10 1 0) 10 2 0) = D2
  refine hr.1 2 True _ _ (27, [some (.ref 9), some (.ref 3)], [.ref 5], [4, sd, ln, pp], D2) rfl trivial ?_
  refine hr.2.2.1 _ _ _ _ _ d rfl (by omega) (t_forget D2) (fun v S hq => ?_)
  obtain ⟨rfl, rfl⟩ := hq
  generalize hD3 : fs_forget D2 = D3
  exact hr.2.2.2 _ _ _ rfl trivial ⟨rfl, (by subst hD3; subst hD2; subst hD1; rw [fs_ubegin])⟩
