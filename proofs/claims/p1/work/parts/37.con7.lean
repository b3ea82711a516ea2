/-! Contracts (written by a program) -/
set_option maxRecDepth 100000 in
set_option maxHeartbeats 4000000 in
theorem c_g_R_fail {l : Launch} {E : zx_E} {d : Nat} {x1 : Int32} {x2 : Int32} {D : zx_D} {q : zx_D} (h : g_R_fail x1 x2 D = some q) : zx_MR l E 113 d [.ref 0, .int x1, .int x2] ([], D) (fun v S => v = none ∧ S = ([], q)) := by
  refine zx_ofR (K := ck_R_fail) rfl (by decide +kernel) rfl ok_R_fail (Nat.le_of_ble_eq_true rfl) (fun Zp hr => ?_)
  show Zp (0, [some (.ref 0), some (.int x1), some (.int x2)], [], [], D)
  rw [g_R_fail] at h
  refine hr.1 3 True _ _ (5, [some (.ref 0), some (.int x1), some (.int x2)], [.int (zg_i D 0 29), .ref 0], [], D) rfl trivial ?_
  refine hr.2.1 _ (¬ zg_i D 0 29 = 0) _ _ rfl (fun c5 => ?_) (fun c5 => ?_)
  · replace h := zk_t h c5
    refine hr.1 6 True _ _ (24, [some (.ref 0), some (.int x1), some (.int x2)], [.int (zg_i D 0 29), .ref 0], [], zp_i D 0 30 (zg_i D 0 30)) rfl trivial ?_
    refine hr.2.1 _ (¬ zg_i D 0 29 = 0) _ _ rfl (fun _ => ?_) (fun z => absurd c5 z)
    refine hr.1 3 True _ _ (38, [some (.ref 0), some (.int x1), some (.int x2)], [], [], zp_i (zp_i D 0 30 (zg_i D 0 30)) 0 29 (zg_i D 0 29)) rfl trivial ?_
    exact hr.2.2.2 _ _ _ rfl trivial ⟨rfl, (congrArg (fun x => (([], x) : zx_S)) (Option.some.inj h))⟩
  · replace h := zk_f h c5
    refine hr.1 6 True _ _ (24, [some (.ref 0), some (.int x1), some (.int x2)], [.int (zg_i D 0 29), .ref 0], [], zp_i D 0 30 x2) rfl trivial ?_
    refine hr.2.1 _ (¬ zg_i D 0 29 = 0) _ _ rfl (fun z => absurd z c5) (fun _ => ?_)
    refine hr.1 3 True _ _ (38, [some (.ref 0), some (.int x1), some (.int x2)], [], [], zp_i (zp_i D 0 30 x2) 0 29 x1) rfl trivial ?_
    exact hr.2.2.2 _ _ _ rfl trivial ⟨rfl, (congrArg (fun x => (([], x) : zx_S)) (Option.some.inj h))⟩
set_option maxRecDepth 100000 in
set_option maxHeartbeats 4000000 in
theorem c_g_R_has {l : Launch} {E : zx_E} {d : Nat} {x1 : Int32} {D : zx_D} {q : Int32 × zx_D} (h : g_R_has x1 D = some q) : zx_MR l E 114 (d + 1) [.ref 0, .int x1] ([], D) (fun v S => v = some (.int q.1) ∧ S = ([], q.2)) := by
  refine zx_ofR (K := ck_R_has) rfl (by decide +kernel) rfl ok_R_has (Nat.le_of_ble_eq_true rfl) (fun Zp hr => ?_)
  show Zp (0, [some (.ref 0), some (.int x1)], [], [], D)
  rw [g_R_has] at h
  refine hr.1 6 True _ _ (10, [some (.ref 0), some (.int x1)], [.int ((zg_i D 0 3) - (zg_i D 0 28)), .int x1], [], D) rfl trivial ?_
  refine hr.2.1 _ (x1 ≤ (zg_i D 0 3) - (zg_i D 0 28)) _ _ rfl (fun c10 => ?_) (fun c10 => ?_)
  · replace h := zk_t h c10
    refine hr.1 2 True _ _ (27, [some (.ref 0), some (.int x1)], [.int (zg_i D 0 29)], [], D) rfl trivial ?_
    refine hr.2.1 _ (¬ zg_i D 0 29 = 0) _ _ rfl (fun c27 => ?_) (fun c27 => ?_)
    · replace h := zk_t h c27
      refine hr.1 1 True _ _ (35, [some (.ref 0), some (.int x1)], [.int 0], [], D) rfl trivial ?_
      exact hr.2.2.2 _ _ _ rfl (Or.inl rfl) ⟨(congrArg (fun x => some (Value.int x.1)) (Option.some.inj h)), (congrArg (fun x => (([], x.2) : zx_S)) (Option.some.inj h))⟩
    · replace h := zk_f h c27
      refine hr.1 2 True _ _ (35, [some (.ref 0), some (.int x1)], [.int 1], [], D) rfl trivial ?_
      exact hr.2.2.2 _ _ _ rfl (Or.inr rfl) ⟨(congrArg (fun x => some (Value.int x.1)) (Option.some.inj h)), (congrArg (fun x => (([], x.2) : zx_S)) (Option.some.inj h))⟩
  · replace h := zk_f h c10
    refine hr.1 4 True _ _ (20, [some (.ref 0), some (.int x1)], [.int (zg_i D 0 28), .int (-2), .ref 0], [], D) rfl trivial ?_
    obtain ⟨q1, hc, h⟩ := zk_bind h
    refine hr.2.2.1 _ _ _ _ _ (d) rfl (by omega) (c_g_R_fail (l := l) (E := E) (d := d) hc) (fun v S hq => ?_)
    obtain ⟨rfl, rfl⟩ := hq
    clear hc
    refine hr.1 2 True _ _ (27, [some (.ref 0), some (.int x1)], [.int (zg_i q1 0 29)], [], q1) rfl trivial ?_
    refine hr.2.1 _ (¬ zg_i q1 0 29 = 0) _ _ rfl (fun c27 => ?_) (fun c27 => ?_)
    · replace h := zk_t h c27
      refine hr.1 1 True _ _ (35, [some (.ref 0), some (.int x1)], [.int 0], [], q1) rfl trivial ?_
      exact hr.2.2.2 _ _ _ rfl (Or.inl rfl) ⟨(congrArg (fun x => some (Value.int x.1)) (Option.some.inj h)), (congrArg (fun x => (([], x.2) : zx_S)) (Option.some.inj h))⟩
    · replace h := zk_f h c27
      refine hr.1 2 True _ _ (35, [some (.ref 0), some (.int x1)], [.int 1], [], q1) rfl trivial ?_
      exact hr.2.2.2 _ _ _ rfl (Or.inr rfl) ⟨(congrArg (fun x => some (Value.int x.1)) (Option.some.inj h)), (congrArg (fun x => (([], x.2) : zx_S)) (Option.some.inj h))⟩
set_option maxRecDepth 100000 in
set_option maxHeartbeats 4000000 in
theorem c_g_R_number {l : Launch} {E : zx_E} {d : Nat} {x1 : Int32} {x2 : Int32} {D : zx_D} {q : Int64} (h : g_R_number x1 x2 D = some q) : zx_MR l E 115 d [.ref 0, .int x1, .int x2] ([], D) (fun v S => v = some (.long q) ∧ S = ([], D)) := by
  refine zx_ofR (K := ck_R_number) rfl (by decide +kernel) rfl ok_R_number (Nat.le_of_ble_eq_true rfl) (fun Zp hr => ?_)
  show Zp (0, [some (.ref 0), some (.int x1), some (.int x2), none, none, none], [], [], D)
  have loop7 : ∀ (x1 : Int32) (D : zx_D) (k : Nat) (x3 : Int64) (x5 : Int32) (x2 : Int32) (q : Int64), g_R_number_7 x1 D k x3 x5 = some q → (∀ (e5 : Int32), Zp (34, [some (.ref 0), some (.int x1), some (.int x2), some (.long q), none, some (.int e5)], [], [], D)) → Zp (7, [some (.ref 0), some (.int x1), some (.int x2), some (.long x3), none, some (.int x5)], [], [], D) := by
    intro x1 D k
    induction k with
    | zero => intro x3 x5 x2 q h hx; exact (zk_no h).elim
    | succ k ih =>
      intro x3 x5 x2 q h hx
      rw [g_R_number_7] at h
      refine hr.1 1 True _ _ (9, [some (.ref 0), some (.int x1), some (.int x2), some (.long x3), none, some (.int x5)], [.int x5], [], D) rfl trivial ?_
      refine hr.2.1 _ (x5 < 0) _ _ rfl (fun c9 => ?_) (fun c9 => ?_)
      · replace h := zk_t h c9
        replace h := Option.some.inj h
        subst h
        exact hx x5
      · replace h := zk_f h c9
        obtain ⟨w2, h⟩ := zk_ck h
        refine hr.1 14 True _ _ (7, [some (.ref 0), some (.int x1), some (.int x2), some (.long ((zo_lshl x3 8) ||| (((zg_i D 2 (zn (x1 + x5)))).toInt64))), none, some (.int (x5 + (-1)))], [], [], D) rfl ⟨trivial, (zk_vp w2)⟩ ?_
        exact ih ((zo_lshl x3 8) ||| (((zg_i D 2 (zn (x1 + x5)))).toInt64)) (x5 + (-1))  _ _ h hx
  rw [g_R_number] at h
  refine hr.1 6 True _ _ (7, [some (.ref 0), some (.int x1), some (.int x2), some (.long 0), none, some (.int (x2 - 1))], [], [], D) rfl trivial ?_
  obtain ⟨q1, hc, h⟩ := zk_bind h
  refine loop7 x1 D 10000 0 (x2 - 1) x2 q1 hc (fun e5 => ?_)
  clear hc
  refine hr.1 1 True _ _ (35, [some (.ref 0), some (.int x1), some (.int x2), some (.long q1), none, some (.int e5)], [.long q1], [], D) rfl trivial ?_
  exact hr.2.2.2 _ _ _ rfl trivial ⟨(congrArg (fun x => some (Value.long x)) (Option.some.inj h)), rfl⟩
set_option maxRecDepth 100000 in
set_option maxHeartbeats 4000000 in
theorem c_g_R_fourOfPacked {l : Launch} {E : zx_E} {d : Nat} {x1 : Int32} {x2 : Int32} {D : zx_D} {q : Int64} (h : g_R_fourOfPacked x1 x2 D = some q) : zx_MR l E 109 (d + 1) [.ref 0, .int x1, .int x2] ([], D) (fun v S => v = some (.long q) ∧ S = ([], D)) := by
  refine zx_ofR (K := ck_R_fourOfPacked) rfl (by decide +kernel) rfl ok_R_fourOfPacked (Nat.le_of_ble_eq_true rfl) (fun Zp hr => ?_)
  show Zp (0, [some (.ref 0), some (.int x1), some (.int x2), none, none, none], [], [], D)
  have loop7 : ∀ (x2 : Int32) (D : zx_D) (k : Nat) (x3 : Int64) (x5 : Int32) (x1 : Int32) (q : Int64), g_R_fourOfPacked_7 x2 D k x3 x5 = some q → (∀ (e5 : Int32), Zp (31, [some (.ref 0), some (.int x1), some (.int x2), some (.long q), none, some (.int e5)], [], [], D)) → Zp (7, [some (.ref 0), some (.int x1), some (.int x2), some (.long x3), none, some (.int x5)], [], [], D) := by
    intro x2 D k
    induction k with
    | zero => intro x3 x5 x1 q h hx; exact (zk_no h).elim
    | succ k ih =>
      intro x3 x5 x1 q h hx
      rw [g_R_fourOfPacked_7] at h
      refine hr.1 2 True _ _ (10, [some (.ref 0), some (.int x1), some (.int x2), some (.long x3), none, some (.int x5)], [.int x2, .int x5], [], D) rfl trivial ?_
      refine hr.2.1 _ (x2 ≤ x5) _ _ rfl (fun c10 => ?_) (fun c10 => ?_)
      · replace h := zk_t h c10
        replace h := Option.some.inj h
        subst h
        exact hx x5
      · replace h := zk_f h c10
        obtain ⟨w2, h⟩ := zk_ck h
        refine hr.1 5 True _ _ (21, [some (.ref 0), some (.int x1), some (.int x2), some (.long x3), none, some (.int x5)], [.int (zg_i D 2 (zn x5)), .long x3], [], D) rfl ⟨trivial, (zk_vp w2)⟩ ?_
        obtain ⟨q1, hc, h⟩ := zk_bind h
        refine hr.2.2.1 _ _ _ _ _ (d) rfl (by omega) (c_g_R_four (l := l) (E := E) (d := d) hc) (fun v S hq => ?_)
        obtain ⟨rfl, rfl⟩ := hq
        clear hc
        refine hr.1 3 True _ _ (7, [some (.ref 0), some (.int x1), some (.int x2), some (.long q1), none, some (.int (x5 + 1))], [], [], D) rfl trivial ?_
        exact ih q1 (x5 + 1)  _ _ h hx
  rw [g_R_fourOfPacked] at h
  refine hr.1 4 True _ _ (7, [some (.ref 0), some (.int x1), some (.int x2), some (.long 4294967295), none, some (.int x1)], [], [], D) rfl trivial ?_
  obtain ⟨q2, hc, h⟩ := zk_bind h
  refine loop7 x2 D 10000 4294967295 x1 x1 q2 hc (fun e5 => ?_)
  clear hc
  refine hr.1 3 True _ _ (36, [some (.ref 0), some (.int x1), some (.int x2), some (.long q2), none, some (.int e5)], [.long (q2 ^^^ 4294967295)], [], D) rfl trivial ?_
  exact hr.2.2.2 _ _ _ rfl trivial ⟨(congrArg (fun x => some (Value.long x)) (Option.some.inj h)), rfl⟩
set_option maxRecDepth 100000 in
set_option maxHeartbeats 4000000 in
theorem c_g_R_sumOf {l : Launch} {E : zx_E} {d : Nat} {x1 : Int32} {D : zx_D} {q : zx_D} (h : g_R_sumOf x1 D = some q) : zx_MR l E 116 (d + 2) [.ref 0, .int x1] ([], D) (fun v S => v = none ∧ S = ([], q)) := by
  refine zx_ofR (K := ck_R_sumOf) rfl (by decide +kernel) rfl ok_R_sumOf (Nat.le_of_ble_eq_true rfl) (fun Zp hr => ?_)
  show Zp (0, [some (.ref 0), some (.int x1)], [], [], D)
  rw [g_R_sumOf] at h
  refine hr.1 2 True _ _ (2, [some (.ref 0), some (.int x1)], [.int 4, .ref 0], [], D) rfl trivial ?_
  obtain ⟨q1, hc, h⟩ := zk_bind h
  refine hr.2.2.1 _ _ _ _ _ (d + 1) rfl (by omega) (c_g_R_has (l := l) (E := E) (d := d) hc) (fun v S hq => ?_)
  obtain ⟨rfl, rfl⟩ := hq
  clear hc
  refine hr.2.1 _ (q1.1 = 0) _ _ rfl (fun c5 => ?_) (fun c5 => ?_)
  · replace h := zk_t h c5
    exact hr.2.2.2 _ _ _ rfl trivial ⟨rfl, (congrArg (fun x => (([], x) : zx_S)) (Option.some.inj h))⟩
  · replace h := zk_f h c5
    refine hr.1 4 True _ _ (14, [some (.ref 0), some (.int x1)], [.int 4, .int (zg_i q1.2 0 28), .ref 0], [], q1.2) rfl trivial ?_
    obtain ⟨q2, hc, h⟩ := zk_bind h
    refine hr.2.2.1 _ _ _ _ _ (d + 1) rfl (by omega) (c_g_R_number (l := l) (E := E) (d := d + 1) hc) (fun v S hq => ?_)
    obtain ⟨rfl, rfl⟩ := hq
    clear hc
    refine hr.1 4 True _ _ (23, [some (.ref 0), some (.int x1)], [.int (zg_i q1.2 0 28), .int x1, .ref 0, .long q2], [], q1.2) rfl trivial ?_
    obtain ⟨q3, hc, h⟩ := zk_bind h
    refine hr.2.2.1 _ _ _ _ _ (d + 1) rfl (by omega) (c_g_R_fourOfPacked (l := l) (E := E) (d := d) hc) (fun v S hq => ?_)
    obtain ⟨rfl, rfl⟩ := hq
    clear hc
    refine hr.2.1 _ (q2 = q3) _ _ rfl (fun c26 => ?_) (fun c26 => ?_)
    · replace h := zk_t h c26
      refine hr.1 6 True _ _ (50, [some (.ref 0), some (.int x1)], [], [], zp_i q1.2 0 28 ((zg_i q1.2 0 28) + 4)) rfl trivial ?_
      exact hr.2.2.2 _ _ _ rfl trivial ⟨rfl, (congrArg (fun x => (([], x) : zx_S)) (Option.some.inj h))⟩
    · replace h := zk_f h c26
      refine hr.1 4 True _ _ (37, [some (.ref 0), some (.int x1)], [.int (zg_i q1.2 0 28), .int (-4), .ref 0], [], q1.2) rfl trivial ?_
      obtain ⟨q4, hc, h⟩ := zk_bind h
      refine hr.2.2.1 _ _ _ _ _ (d + 1) rfl (by omega) (c_g_R_fail (l := l) (E := E) (d := d + 1) hc) (fun v S hq => ?_)
      obtain ⟨rfl, rfl⟩ := hq
      clear hc
      refine hr.1 6 True _ _ (50, [some (.ref 0), some (.int x1)], [], [], zp_i q4 0 28 ((zg_i q4 0 28) + 4)) rfl trivial ?_
      exact hr.2.2.2 _ _ _ rfl trivial ⟨rfl, (congrArg (fun x => (([], x) : zx_S)) (Option.some.inj h))⟩
set_option maxRecDepth 100000 in
set_option maxHeartbeats 4000000 in
theorem c_g_R_begin {l : Launch} {E : zx_E} {d : Nat} {D : zx_D} {q : zx_D} (h : g_R_begin D = some q) : zx_MR l E 121 (d + 3) [.ref 0] ([], D) (fun v S => v = none ∧ S = ([], q)) := by
  refine zx_ofR (K := ck_R_begin) rfl (by decide +kernel) rfl ok_R_begin (Nat.le_of_ble_eq_true rfl) (fun Zp hr => ?_)
  show Zp (0, [some (.ref 0), none], [], [], D)
  have loop17 : ∀ (k : Nat) (x1 : Int32) (D : zx_D) (q : zx_D), g_R_begin_17 k x1 D = some q → (∀ (e1 : Int32), Zp (49, [some (.ref 0), some (.int e1)], [], [], q)) → Zp (17, [some (.ref 0), some (.int x1)], [], [], D) := by
    intro k
    induction k with
    | zero => intro x1 D q h hx; exact (zk_no h).elim
    | succ k ih =>
      intro x1 D q h hx
      rw [g_R_begin_17] at h
      refine hr.1 2 True _ _ (20, [some (.ref 0), some (.int x1)], [.int 6, .int x1], [], D) rfl trivial ?_
      refine hr.2.1 _ (6 ≤ x1) _ _ rfl (fun c20 => ?_) (fun c20 => ?_)
      · replace h := zk_t h c20
        replace h := Option.some.inj h
        subst h
        exact hx x1
      · replace h := zk_f h c20
        obtain ⟨w2, h⟩ := zk_ck h
        refine hr.1 5 True _ _ (30, [some (.ref 0), some (.int x1)], [.int x1, .int (zg_i D 2 (zn x1))], [], D) rfl ⟨trivial, (zk_vp w2)⟩ ?_
        obtain ⟨q2, hc, h⟩ := zk_bind h
        refine hr.2.2.1 _ _ _ _ _ (d + 2) rfl (by omega) (c_g_R_magic (l := l) (E := E) (d := d + 2) hc) (fun v S hq => ?_)
        obtain ⟨rfl, rfl⟩ := hq
        clear hc
        refine hr.2.1 _ (zg_i D 2 (zn x1) = q2) _ _ rfl (fun c33 => ?_) (fun c33 => ?_)
        · replace h := zk_t h c33
          refine hr.1 2 True _ _ (17, [some (.ref 0), some (.int (x1 + 1))], [], [], D) rfl trivial ?_
          exact ih (x1 + 1) D _ h hx
        · replace h := zk_f h c33
          refine hr.1 3 True _ _ (40, [some (.ref 0), some (.int x1)], [.int 0, .int (-3), .ref 0], [], D) rfl trivial ?_
          obtain ⟨q3, hc, h⟩ := zk_bind h
          refine hr.2.2.1 _ _ _ _ _ (d + 2) rfl (by omega) (c_g_R_fail (l := l) (E := E) (d := d + 2) hc) (fun v S hq => ?_)
          obtain ⟨rfl, rfl⟩ := hq
          clear hc
          refine hr.1 2 True _ _ (17, [some (.ref 0), some (.int (x1 + 1))], [], [], q3) rfl trivial ?_
          exact ih (x1 + 1) q3 _ h hx
  rw [g_R_begin] at h
  refine hr.1 5 True _ _ (8, [some (.ref 0), none], [.int 6, .ref 0], [], zp_i D 0 28 0) rfl trivial ?_
  obtain ⟨q1, hc, h⟩ := zk_bind h
  refine hr.2.2.1 _ _ _ _ _ (d + 2) rfl (by omega) (c_g_R_has (l := l) (E := E) (d := d + 1) hc) (fun v S hq => ?_)
  obtain ⟨rfl, rfl⟩ := hq
  clear hc
  refine hr.2.1 _ (¬ q1.1 = 0) _ _ rfl (fun c11 => ?_) (fun c11 => ?_)
  · replace h := zk_t h c11
    refine hr.1 2 True _ _ (17, [some (.ref 0), some (.int 0)], [], [], q1.2) rfl trivial ?_
    obtain ⟨q4, hc, h⟩ := zk_bind h
    refine loop17 10000 0 q1.2 q4 hc (fun e1 => ?_)
    clear hc
    refine hr.1 5 True _ _ (57, [some (.ref 0), some (.int e1)], [.int 2, .ref 0], [], zp_i q4 0 28 6) rfl trivial ?_
    obtain ⟨q5, hc, h⟩ := zk_bind h
    refine hr.2.2.1 _ _ _ _ _ (d + 2) rfl (by omega) (c_g_R_has (l := l) (E := E) (d := d + 1) hc) (fun v S hq => ?_)
    obtain ⟨rfl, rfl⟩ := hq
    clear hc
    refine hr.2.1 _ (¬ q5.1 = 0) _ _ rfl (fun c60 => ?_) (fun c60 => ?_)
    · replace h := zk_t h c60
      refine hr.1 10 True _ _ (82, [some (.ref 0), some (.int e1)], [.int (zg_i q5.2 2 (zn 6))], [], zp_i q5.2 0 31 (zg_i q5.2 2 (zn 7))) rfl ⟨⟨trivial, (zk_vp rfl)⟩, (zk_vp rfl)⟩ ?_
      obtain ⟨q9, hj, h⟩ := zk_bind h
      have J103 : ∀ (_ : True), Zp (103, [some (.ref 0), some (.int e1)], [], [], q9) := by
        intro _
        refine hr.1 5 True _ _ (113, [some (.ref 0), some (.int e1)], [.int (zg_i q9 0 29)], [], zp_i q9 0 28 8) rfl trivial ?_
        refine hr.2.1 _ (¬ zg_i q9 0 29 = 0) _ _ rfl (fun c113 => ?_) (fun c113 => ?_)
        · replace h := zk_t h c113
          exact hr.2.2.2 _ _ _ rfl trivial ⟨rfl, (congrArg (fun x => (([], x) : zx_S)) (Option.some.inj h))⟩
        · replace h := zk_f h c113
          refine hr.1 2 True _ _ (119, [some (.ref 0), some (.int e1)], [.int 6, .ref 0], [], zp_i q9 0 28 8) rfl trivial ?_
          obtain ⟨q10, hc, h⟩ := zk_bind h
          refine hr.2.2.1 _ _ _ _ _ (d + 2) rfl (by omega) (c_g_R_sumOf (l := l) (E := E) (d := d) hc) (fun v S hq => ?_)
          obtain ⟨rfl, rfl⟩ := hq
          clear hc
          exact hr.2.2.2 _ _ _ rfl trivial ⟨rfl, (congrArg (fun x => (([], x) : zx_S)) (Option.some.inj h))⟩
      clear h
      have h := hj
      clear hj
      refine hr.2.1 _ (¬ zg_i q5.2 2 (zn 6) = 0) _ _ rfl (fun c82 => ?_) (fun c82 => ?_)
      · replace h := zk_t h c82
        refine hr.1 3 True _ _ (100, [some (.ref 0), some (.int e1)], [.int 6, .int (-3), .ref 0], [], zp_i q5.2 0 31 (zg_i q5.2 2 (zn 7))) rfl trivial ?_
        obtain ⟨q6, hc, h⟩ := zk_bind h
        refine hr.2.2.1 _ _ _ _ _ (d + 2) rfl (by omega) (c_g_R_fail (l := l) (E := E) (d := d + 2) hc) (fun v S hq => ?_)
        obtain ⟨rfl, rfl⟩ := hq
        clear hc
        replace h := Option.some.inj h
        subst h
        exact J103 trivial
      · replace h := zk_f h c82
        refine hr.1 2 True _ _ (89, [some (.ref 0), some (.int e1)], [.int (zg_i q5.2 2 (zn 7))], [], zp_i q5.2 0 31 (zg_i q5.2 2 (zn 7))) rfl trivial ?_
        obtain ⟨q7, hc, h⟩ := zk_bind h
        refine hr.2.2.1 _ _ _ _ _ (d + 2) rfl (by omega) (c_g_R_isSort (l := l) (E := E) (d := d + 2) hc) (fun v S hq => ?_)
        obtain ⟨rfl, rfl⟩ := hq
        clear hc
        refine hr.2.1 _ (¬ q7 = 0) _ _ rfl (fun c92 => ?_) (fun c92 => ?_)
        · replace h := zk_t h c92
          replace h := Option.some.inj h
          subst h
          exact J103 trivial
        · replace h := zk_f h c92
          refine hr.1 3 True _ _ (100, [some (.ref 0), some (.int e1)], [.int 6, .int (-3), .ref 0], [], zp_i q5.2 0 31 (zg_i q5.2 2 (zn 7))) rfl trivial ?_
          obtain ⟨q8, hc, h⟩ := zk_bind h
          refine hr.2.2.1 _ _ _ _ _ (d + 2) rfl (by omega) (c_g_R_fail (l := l) (E := E) (d := d + 2) hc) (fun v S hq => ?_)
          obtain ⟨rfl, rfl⟩ := hq
          clear hc
          replace h := Option.some.inj h
          subst h
          exact J103 trivial
    · replace h := zk_f h c60
      exact hr.2.2.2 _ _ _ rfl trivial ⟨rfl, (congrArg (fun x => (([], x) : zx_S)) (Option.some.inj h))⟩
  · replace h := zk_f h c11
    exact hr.2.2.2 _ _ _ rfl trivial ⟨rfl, (congrArg (fun x => (([], x) : zx_S)) (Option.some.inj h))⟩
set_option maxRecDepth 100000 in
set_option maxHeartbeats 4000000 in
theorem c_g_R_vli {l : Launch} {E : zx_E} {d : Nat} {x1 : Int32} {x2 : Int32} {D : zx_D} {q : Int64 × zx_D} (h : g_R_vli x1 x2 D = some q) : zx_MR l E 117 (d + 1) [.ref 0, .int x1, .int x2] ([], D) (fun v S => v = some (.long q.1) ∧ S = ([], q.2)) := by
  refine zx_ofR (K := ck_R_vli) rfl (by decide +kernel) rfl ok_R_vli (Nat.le_of_ble_eq_true rfl) (fun Zp hr => ?_)
  show Zp (0, [some (.ref 0), some (.int x1), some (.int x2), none, none, none, none, none], [], [], D)
  have loop11 : ∀ (x1 : Int32) (x2 : Int32) (x3 : Int32) (k : Nat) (x4 : Int64) (x6 : Int32) (D : zx_D) (o7 : Option Value), g_R_vli_11 x1 x2 x3 k x4 x6 D = some q → Zp (11, [some (.ref 0), some (.int x1), some (.int x2), some (.int x3), some (.long x4), none, some (.int x6), o7], [], [], D) := by
    intro x1 x2 x3 k
    induction k with
    | zero => intro x4 x6 D o7 h; exact (zk_no h).elim
    | succ k ih =>
      intro x4 x6 D o7 h
      rw [g_R_vli_11] at h
      refine hr.1 2 True _ _ (15, [some (.ref 0), some (.int x1), some (.int x2), some (.int x3), some (.long x4), none, some (.int x6), o7], [.int 9, .int x6], [], D) rfl trivial ?_
      refine hr.2.1 _ (9 ≤ x6) _ _ rfl (fun c15 => ?_) (fun c15 => ?_)
      · replace h := zk_t h c15
        refine hr.1 3 True _ _ (117, [some (.ref 0), some (.int x1), some (.int x2), some (.int x3), some (.long x4), none, some (.int x6), o7], [.int x3, .int (-3), .ref 0], [], D) rfl trivial ?_
        obtain ⟨q1, hc, h⟩ := zk_bind h
        refine hr.2.2.1 _ _ _ _ _ (d) rfl (by omega) (c_g_R_fail (l := l) (E := E) (d := d) hc) (fun v S hq => ?_)
        obtain ⟨rfl, rfl⟩ := hq
        clear hc
        refine hr.1 1 True _ _ (121, [some (.ref 0), some (.int x1), some (.int x2), some (.int x3), some (.long x4), none, some (.int x6), o7], [.long 0], [], q1) rfl trivial ?_
        exact hr.2.2.2 _ _ _ rfl trivial ⟨(congrArg (fun x => some (Value.long x.1)) (Option.some.inj h)), (congrArg (fun x => (([], x.2) : zx_S)) (Option.some.inj h))⟩
      · replace h := zk_f h c15
        refine hr.1 2 True _ _ (22, [some (.ref 0), some (.int x1), some (.int x2), some (.int x3), some (.long x4), none, some (.int x6), o7], [.int (zg_i D 0 29)], [], D) rfl trivial ?_
        refine hr.2.1 _ (¬ zg_i D 0 29 = 0) _ _ rfl (fun c22 => ?_) (fun c22 => ?_)
        · replace h := zk_t h c22
          refine hr.1 3 True _ _ (117, [some (.ref 0), some (.int x1), some (.int x2), some (.int x3), some (.long x4), none, some (.int x6), o7], [.int x3, .int (-3), .ref 0], [], D) rfl trivial ?_
          obtain ⟨q2, hc, h⟩ := zk_bind h
          refine hr.2.2.1 _ _ _ _ _ (d) rfl (by omega) (c_g_R_fail (l := l) (E := E) (d := d) hc) (fun v S hq => ?_)
          obtain ⟨rfl, rfl⟩ := hq
          clear hc
          refine hr.1 1 True _ _ (121, [some (.ref 0), some (.int x1), some (.int x2), some (.int x3), some (.long x4), none, some (.int x6), o7], [.long 0], [], q2) rfl trivial ?_
          exact hr.2.2.2 _ _ _ rfl trivial ⟨(congrArg (fun x => some (Value.long x.1)) (Option.some.inj h)), (congrArg (fun x => (([], x.2) : zx_S)) (Option.some.inj h))⟩
        · replace h := zk_f h c22
          refine hr.1 3 True _ _ (30, [some (.ref 0), some (.int x1), some (.int x2), some (.int x3), some (.long x4), none, some (.int x6), o7], [.int x1, .int (zg_i D 0 28)], [], D) rfl trivial ?_
          refine hr.2.1 _ (zg_i D 0 28 < x1) _ _ rfl (fun c30 => ?_) (fun c30 => ?_)
          · replace h := zk_t h c30
            obtain ⟨w2, h⟩ := zk_ck h
            refine hr.1 25 True _ _ (84, [some (.ref 0), some (.int x1), some (.int x2), some (.int x3), some (.long (x4 ||| (zo_lshl ((((zg_i D 2 (zn (zg_i D 0 28))) &&& 127)).toInt64) (7 * x6)))), none, some (.int x6), some (.int (zg_i D 2 (zn (zg_i D 0 28))))], [.int 128, .int (zg_i D 2 (zn (zg_i D 0 28)))], [], zp_i D 0 28 ((zg_i D 0 28) + 1)) rfl ⟨trivial, (zk_vp w2)⟩ ?_
            refine hr.2.1 _ (128 ≤ zg_i D 2 (zn (zg_i D 0 28))) _ _ rfl (fun c84 => ?_) (fun c84 => ?_)
            · replace h := zk_t h c84
              refine hr.1 2 True _ _ (11, [some (.ref 0), some (.int x1), some (.int x2), some (.int x3), some (.long (x4 ||| (zo_lshl ((((zg_i D 2 (zn (zg_i D 0 28))) &&& 127)).toInt64) (7 * x6)))), none, some (.int (x6 + 1)), some (.int (zg_i D 2 (zn (zg_i D 0 28))))], [], [], zp_i D 0 28 ((zg_i D 0 28) + 1)) rfl trivial ?_
              exact ih (x4 ||| (zo_lshl ((((zg_i D 2 (zn (zg_i D 0 28))) &&& 127)).toInt64) (7 * x6))) (x6 + 1) (zp_i D 0 28 ((zg_i D 0 28) + 1)) _ h
            · replace h := zk_f h c84
              refine hr.1 1 True _ _ (89, [some (.ref 0), some (.int x1), some (.int x2), some (.int x3), some (.long (x4 ||| (zo_lshl ((((zg_i D 2 (zn (zg_i D 0 28))) &&& 127)).toInt64) (7 * x6)))), none, some (.int x6), some (.int (zg_i D 2 (zn (zg_i D 0 28))))], [.int (zg_i D 2 (zn (zg_i D 0 28)))], [], zp_i D 0 28 ((zg_i D 0 28) + 1)) rfl trivial ?_
              refine hr.2.1 _ (¬ zg_i D 2 (zn (zg_i D 0 28)) = 0) _ _ rfl (fun c89 => ?_) (fun c89 => ?_)
              · replace h := zk_t h c89
                refine hr.1 1 True _ _ (106, [some (.ref 0), some (.int x1), some (.int x2), some (.int x3), some (.long (x4 ||| (zo_lshl ((((zg_i D 2 (zn (zg_i D 0 28))) &&& 127)).toInt64) (7 * x6)))), none, some (.int x6), some (.int (zg_i D 2 (zn (zg_i D 0 28))))], [.long (x4 ||| (zo_lshl ((((zg_i D 2 (zn (zg_i D 0 28))) &&& 127)).toInt64) (7 * x6)))], [], zp_i D 0 28 ((zg_i D 0 28) + 1)) rfl trivial ?_
                exact hr.2.2.2 _ _ _ rfl trivial ⟨(congrArg (fun x => some (Value.long x.1)) (Option.some.inj h)), (congrArg (fun x => (([], x.2) : zx_S)) (Option.some.inj h))⟩
              · replace h := zk_f h c89
                refine hr.1 1 True _ _ (94, [some (.ref 0), some (.int x1), some (.int x2), some (.int x3), some (.long (x4 ||| (zo_lshl ((((zg_i D 2 (zn (zg_i D 0 28))) &&& 127)).toInt64) (7 * x6)))), none, some (.int x6), some (.int (zg_i D 2 (zn (zg_i D 0 28))))], [.int x6], [], zp_i D 0 28 ((zg_i D 0 28) + 1)) rfl trivial ?_
                refine hr.2.1 _ (x6 ≤ 0) _ _ rfl (fun c94 => ?_) (fun c94 => ?_)
                · replace h := zk_t h c94
                  refine hr.1 1 True _ _ (106, [some (.ref 0), some (.int x1), some (.int x2), some (.int x3), some (.long (x4 ||| (zo_lshl ((((zg_i D 2 (zn (zg_i D 0 28))) &&& 127)).toInt64) (7 * x6)))), none, some (.int x6), some (.int (zg_i D 2 (zn (zg_i D 0 28))))], [.long (x4 ||| (zo_lshl ((((zg_i D 2 (zn (zg_i D 0 28))) &&& 127)).toInt64) (7 * x6)))], [], zp_i D 0 28 ((zg_i D 0 28) + 1)) rfl trivial ?_
                  exact hr.2.2.2 _ _ _ rfl trivial ⟨(congrArg (fun x => some (Value.long x.1)) (Option.some.inj h)), (congrArg (fun x => (([], x.2) : zx_S)) (Option.some.inj h))⟩
                · replace h := zk_f h c94
                  refine hr.1 3 True _ _ (101, [some (.ref 0), some (.int x1), some (.int x2), some (.int x3), some (.long (x4 ||| (zo_lshl ((((zg_i D 2 (zn (zg_i D 0 28))) &&& 127)).toInt64) (7 * x6)))), none, some (.int x6), some (.int (zg_i D 2 (zn (zg_i D 0 28))))], [.int x3, .int (-3), .ref 0], [], zp_i D 0 28 ((zg_i D 0 28) + 1)) rfl trivial ?_
                  obtain ⟨q3, hc, h⟩ := zk_bind h
                  refine hr.2.2.1 _ _ _ _ _ (d) rfl (by omega) (c_g_R_fail (l := l) (E := E) (d := d) hc) (fun v S hq => ?_)
                  obtain ⟨rfl, rfl⟩ := hq
                  clear hc
                  refine hr.1 1 True _ _ (106, [some (.ref 0), some (.int x1), some (.int x2), some (.int x3), some (.long (x4 ||| (zo_lshl ((((zg_i D 2 (zn (zg_i D 0 28))) &&& 127)).toInt64) (7 * x6)))), none, some (.int x6), some (.int (zg_i D 2 (zn (zg_i D 0 28))))], [.long (x4 ||| (zo_lshl ((((zg_i D 2 (zn (zg_i D 0 28))) &&& 127)).toInt64) (7 * x6)))], [], q3) rfl trivial ?_
                  exact hr.2.2.2 _ _ _ rfl trivial ⟨(congrArg (fun x => some (Value.long x.1)) (Option.some.inj h)), (congrArg (fun x => (([], x.2) : zx_S)) (Option.some.inj h))⟩
          · replace h := zk_f h c30
            refine hr.1 3 True _ _ (36, [some (.ref 0), some (.int x1), some (.int x2), some (.int x3), some (.long x4), none, some (.int x6), o7], [.int x3, .int x2, .ref 0], [], D) rfl trivial ?_
            obtain ⟨q4, hc, h⟩ := zk_bind h
            refine hr.2.2.1 _ _ _ _ _ (d) rfl (by omega) (c_g_R_fail (l := l) (E := E) (d := d) hc) (fun v S hq => ?_)
            obtain ⟨rfl, rfl⟩ := hq
            clear hc
            refine hr.1 1 True _ _ (40, [some (.ref 0), some (.int x1), some (.int x2), some (.int x3), some (.long x4), none, some (.int x6), o7], [.long 0], [], q4) rfl trivial ?_
            exact hr.2.2.2 _ _ _ rfl trivial ⟨(congrArg (fun x => some (Value.long x.1)) (Option.some.inj h)), (congrArg (fun x => (([], x.2) : zx_S)) (Option.some.inj h))⟩
  rw [g_R_vli] at h
  refine hr.1 7 True _ _ (11, [some (.ref 0), some (.int x1), some (.int x2), some (.int (zg_i D 0 28)), some (.long 0), none, some (.int 0), none], [], [], D) rfl trivial ?_
  exact loop11 x1 x2 (zg_i D 0 28) 10000 0 0 D none h
set_option maxRecDepth 100000 in
set_option maxHeartbeats 4000000 in
theorem c_g_R_headByte {l : Launch} {E : zx_E} {d : Nat} {x1 : Int32} {D : zx_D} {q : Int32 × zx_D} (h : g_R_headByte x1 D = some q) : zx_MR l E 122 (d + 1) [.ref 0, .int x1] ([], D) (fun v S => v = some (.int q.1) ∧ S = ([], q.2)) := by
  refine zx_ofR (K := ck_R_headByte) rfl (by decide +kernel) rfl ok_R_headByte (Nat.le_of_ble_eq_true rfl) (fun Zp hr => ?_)
  show Zp (0, [some (.ref 0), some (.int x1)], [], [], D)
  rw [g_R_headByte] at h
  refine hr.1 2 True _ _ (4, [some (.ref 0), some (.int x1)], [.int (zg_i D 0 29)], [], D) rfl trivial ?_
  refine hr.2.1 _ (zg_i D 0 29 = 0) _ _ rfl (fun c4 => ?_) (fun c4 => ?_)
  · replace h := zk_t h c4
    refine hr.1 3 True _ _ (14, [some (.ref 0), some (.int x1)], [.int x1, .int (zg_i D 0 28)], [], D) rfl trivial ?_
    refine hr.2.1 _ (zg_i D 0 28 < x1) _ _ rfl (fun c14 => ?_) (fun c14 => ?_)
    · replace h := zk_t h c14
      obtain ⟨w2, h⟩ := zk_ck h
      refine hr.1 13 True _ _ (50, [some (.ref 0), some (.int x1)], [.int (zg_i D 2 (zn (((zg_i D 0 28) + 1) - 1)))], [], zp_i D 0 28 ((zg_i D 0 28) + 1)) rfl ⟨trivial, (zk_vp w2)⟩ ?_
      exact hr.2.2.2 _ _ _ rfl trivial ⟨(congrArg (fun x => some (Value.int x.1)) (Option.some.inj h)), (congrArg (fun x => (([], x.2) : zx_S)) (Option.some.inj h))⟩
    · replace h := zk_f h c14
      refine hr.1 4 True _ _ (24, [some (.ref 0), some (.int x1)], [.int (zg_i D 0 28), .int (-3), .ref 0], [], D) rfl trivial ?_
      obtain ⟨q1, hc, h⟩ := zk_bind h
      refine hr.2.2.1 _ _ _ _ _ (d) rfl (by omega) (c_g_R_fail (l := l) (E := E) (d := d) hc) (fun v S hq => ?_)
      obtain ⟨rfl, rfl⟩ := hq
      clear hc
      refine hr.1 1 True _ _ (28, [some (.ref 0), some (.int x1)], [.int 0], [], q1) rfl trivial ?_
      exact hr.2.2.2 _ _ _ rfl trivial ⟨(congrArg (fun x => some (Value.int x.1)) (Option.some.inj h)), (congrArg (fun x => (([], x.2) : zx_S)) (Option.some.inj h))⟩
  · replace h := zk_f h c4
    refine hr.1 1 True _ _ (8, [some (.ref 0), some (.int x1)], [.int 0], [], D) rfl trivial ?_
    exact hr.2.2.2 _ _ _ rfl trivial ⟨(congrArg (fun x => some (Value.int x.1)) (Option.some.inj h)), (congrArg (fun x => (([], x.2) : zx_S)) (Option.some.inj h))⟩
set_option maxRecDepth 100000 in
set_option maxHeartbeats 4000000 in
theorem c_g_R_length {l : Launch} {E : zx_E} {d : Nat} {x1 : Int32} {D : zx_D} {q : Int32 × zx_D} (h : g_R_length x1 D = some q) : zx_MR l E 125 (d + 2) [.ref 0, .int x1] ([], D) (fun v S => v = some (.int q.1) ∧ S = ([], q.2)) := by
  refine zx_ofR (K := ck_R_length) rfl (by decide +kernel) rfl ok_R_length (Nat.le_of_ble_eq_true rfl) (fun Zp hr => ?_)
  show Zp (0, [some (.ref 0), some (.int x1)], [], [], D)
  rw [g_R_length] at h
  refine hr.1 2 True _ _ (4, [some (.ref 0), some (.int x1)], [.int (zg_i D 0 29)], [], D) rfl trivial ?_
  refine hr.2.1 _ (¬ zg_i D 0 29 = 0) _ _ rfl (fun c4 => ?_) (fun c4 => ?_)
  · replace h := zk_t h c4
    refine hr.1 1 True _ _ (16, [some (.ref 0), some (.int x1)], [.int 0], [], D) rfl trivial ?_
    exact hr.2.2.2 _ _ _ rfl trivial ⟨(congrArg (fun x => some (Value.int x.1)) (Option.some.inj h)), (congrArg (fun x => (([], x.2) : zx_S)) (Option.some.inj h))⟩
  · replace h := zk_f h c4
    refine hr.1 2 True _ _ (9, [some (.ref 0), some (.int x1)], [.int 2, .ref 0], [], D) rfl trivial ?_
    obtain ⟨q1, hc, h⟩ := zk_bind h
    refine hr.2.2.1 _ _ _ _ _ (d + 1) rfl (by omega) (c_g_R_has (l := l) (E := E) (d := d) hc) (fun v S hq => ?_)
    obtain ⟨rfl, rfl⟩ := hq
    clear hc
    refine hr.2.1 _ (¬ q1.1 = 0) _ _ rfl (fun c12 => ?_) (fun c12 => ?_)
    · replace h := zk_t h c12
      obtain ⟨w3, h⟩ := zk_ck h
      obtain ⟨w4, h⟩ := zk_ck h
      refine hr.1 29 True _ _ (60, [some (.ref 0), some (.int x1)], [.int ((((zo_shl x1 16) ||| (zo_shl (zg_i q1.2 2 (zn (((zg_i q1.2 0 28) + 2) - 2))) 8)) ||| (zg_i q1.2 2 (zn (((zg_i q1.2 0 28) + 2) - 1)))) + 1)], [], zp_i q1.2 0 28 ((zg_i q1.2 0 28) + 2)) rfl ⟨⟨trivial, (zk_vp w3)⟩, (zk_vp w4)⟩ ?_
      exact hr.2.2.2 _ _ _ rfl trivial ⟨(congrArg (fun x => some (Value.int x.1)) (Option.some.inj h)), (congrArg (fun x => (([], x.2) : zx_S)) (Option.some.inj h))⟩
    · replace h := zk_f h c12
      refine hr.1 1 True _ _ (16, [some (.ref 0), some (.int x1)], [.int 0], [], q1.2) rfl trivial ?_
      exact hr.2.2.2 _ _ _ rfl trivial ⟨(congrArg (fun x => some (Value.int x.1)) (Option.some.inj h)), (congrArg (fun x => (([], x.2) : zx_S)) (Option.some.inj h))⟩
set_option maxRecDepth 100000 in
set_option maxHeartbeats 4000000 in
theorem c_g_R_properties {l : Launch} {E : zx_E} {d : Nat} {x1 : Int32} {D : zx_D} {q : zx_D} (h : g_R_properties x1 D = some q) : zx_MR l E 127 (d + 1) [.ref 0, .int x1] ([], D) (fun v S => v = none ∧ S = ([], q)) := by
  refine zx_ofR (K := ck_R_properties) rfl (by decide +kernel) rfl ok_R_properties (Nat.le_of_ble_eq_true rfl) (fun Zp hr => ?_)
  show Zp (0, [some (.ref 0), some (.int x1)], [], [], D)
  rw [g_R_properties] at h
  refine hr.1 1 True _ _ (1, [some (.ref 0), some (.int x1)], [.int x1], [], D) rfl trivial ?_
  obtain ⟨q1, hc, h⟩ := zk_bind h
  refine hr.2.2.1 _ _ _ _ _ (d) rfl (by omega) (c_g_R_isProperties (l := l) (E := E) (d := d) hc) (fun v S hq => ?_)
  obtain ⟨rfl, rfl⟩ := hq
  clear hc
  obtain ⟨q3, hj, h⟩ := zk_bind h
  have J17 : ∀ (_ : True), Zp (17, [some (.ref 0), some (.int x1)], [], [], q3) := by
    intro _
    refine hr.1 17 True _ _ (43, [some (.ref 0), some (.int x1)], [], [], zp_i (zp_i (zp_i q3 0 9 (zo_rem x1 9)) 0 10 (zo_rem (x1 / 9) 5)) 0 11 (x1 / 45)) rfl trivial ?_
    exact hr.2.2.2 _ _ _ rfl trivial ⟨rfl, (congrArg (fun x => (([], x) : zx_S)) (Option.some.inj h))⟩
  clear h
  have h := hj
  clear hj
  refine hr.2.1 _ (¬ q1 = 0) _ _ rfl (fun c4 => ?_) (fun c4 => ?_)
  · replace h := zk_t h c4
    replace h := Option.some.inj h
    subst h
    exact J17 trivial
  · replace h := zk_f h c4
    refine hr.1 4 True _ _ (14, [some (.ref 0), some (.int x1)], [.int (zg_i D 0 28), .int (-3), .ref 0], [], D) rfl trivial ?_
    obtain ⟨q2, hc, h⟩ := zk_bind h
    refine hr.2.2.1 _ _ _ _ _ (d) rfl (by omega) (c_g_R_fail (l := l) (E := E) (d := d) hc) (fun v S hq => ?_)
    obtain ⟨rfl, rfl⟩ := hq
    clear hc
    replace h := Option.some.inj h
    subst h
    exact J17 trivial
set_option maxRecDepth 100000 in
set_option maxHeartbeats 4000000 in
theorem c_g_R_bytes {l : Launch} {E : zx_E} {d : Nat} {D : zx_D} {q : Int32} (h : g_R_bytes D = some q) : zx_MR l E 146 d [.ref 0] ([], D) (fun v S => v = some (.int q) ∧ S = ([], D)) := by
  refine zx_ofR (K := ck_R_bytes) rfl (by decide +kernel) rfl ok_R_bytes (Nat.le_of_ble_eq_true rfl) (fun Zp hr => ?_)
  show Zp (0, [some (.ref 0)], [], [], D)
  rw [g_R_bytes] at h
  refine hr.1 5 True _ _ (9, [some (.ref 0)], [.int ((zg_i D 0 5) - (zg_i D 0 23))], [], D) rfl trivial ?_
  exact hr.2.2.2 _ _ _ rfl trivial ⟨(congrArg (fun x => some (Value.int x)) (Option.some.inj h)), rfl⟩
set_option maxRecDepth 100000 in
set_option maxHeartbeats 4000000 in
theorem c_g_R_shift {l : Launch} {E : zx_E} {d : Nat} {D : zx_D} {q : zx_D} (h : g_R_shift D = some q) : zx_MR l E 139 d [.ref 0] ([], D) (fun v S => v = none ∧ S = ([], q)) := by
  refine zx_ofR (K := ck_R_shift) rfl (by decide +kernel) rfl ok_R_shift (Nat.le_of_ble_eq_true rfl) (fun Zp hr => ?_)
  show Zp (0, [some (.ref 0)], [], [], D)
  rw [g_R_shift] at h
  refine hr.1 2 True _ _ (4, [some (.ref 0)], [.int (zg_i D 0 22)], [], D) rfl trivial ?_
  refine hr.2.1 _ (¬ zg_i D 0 22 = 0) _ _ rfl (fun c4 => ?_) (fun c4 => ?_)
  · replace h := zk_t h c4
    exact hr.2.2.2 _ _ _ rfl trivial ⟨rfl, (congrArg (fun x => (([], x) : zx_S)) (Option.some.inj h))⟩
  · replace h := zk_f h c4
    refine hr.1 3 True _ _ (14, [some (.ref 0)], [.long 16777216, .long (zg_l D 0 17)], [], D) rfl trivial ?_
    refine hr.2.1 _ (zg_l D 0 17 < 16777216) _ _ rfl (fun c14 => ?_) (fun c14 => ?_)
    · replace h := zk_t h c14
      refine hr.1 4 True _ _ (27, [some (.ref 0)], [.int (zg_i D 0 20), .int (zg_i D 0 19)], [], D) rfl trivial ?_
      refine hr.2.1 _ (zg_i D 0 19 < zg_i D 0 20) _ _ rfl (fun c27 => ?_) (fun c27 => ?_)
      · replace h := zk_t h c27
        obtain ⟨w2, h⟩ := zk_ck h
        refine hr.1 25 True _ _ (81, [some (.ref 0)], [], [], zp_i (zp_l (zp_l D 0 17 ((zg_l D 0 17) * 256)) 0 18 (((zg_l D 0 18) * 256) + (((zg_i D 2 (zn (zg_i D 0 19)))).toInt64))) 0 19 ((zg_i D 0 19) + 1)) rfl ⟨trivial, (zk_vp w2)⟩ ?_
        exact hr.2.2.2 _ _ _ rfl trivial ⟨rfl, (congrArg (fun x => (([], x) : zx_S)) (Option.some.inj h))⟩
      · replace h := zk_f h c27
        refine hr.1 3 True _ _ (35, [some (.ref 0)], [], [], zp_i D 0 22 1) rfl ⟨trivial, (Or.inr rfl)⟩ ?_
        exact hr.2.2.2 _ _ _ rfl trivial ⟨rfl, (congrArg (fun x => (([], x) : zx_S)) (Option.some.inj h))⟩
    · replace h := zk_f h c14
      exact hr.2.2.2 _ _ _ rfl trivial ⟨rfl, (congrArg (fun x => (([], x) : zx_S)) (Option.some.inj h))⟩
set_option maxRecDepth 100000 in
set_option maxHeartbeats 4000000 in
theorem c_g_R_told {l : Launch} {E : zx_E} {d : Nat} {D : zx_D} {q : zx_D} (h : g_R_told D = some q) : zx_MR l E 140 d [.ref 0] ([], D) (fun v S => v = none ∧ S = ([], q)) := by
  refine zx_ofR (K := ck_R_told) rfl (by decide +kernel) rfl ok_R_told (Nat.le_of_ble_eq_true rfl) (fun Zp hr => ?_)
  show Zp (0, [some (.ref 0)], [], [], D)
  rw [g_R_told] at h
  refine hr.1 14 True _ _ (20, [some (.ref 0)], [.int (zg_i D 0 38), .int ((zg_i D 9 (zn 0)) + 1)], [], zp_i D 9 (zn 0) ((zg_i D 9 (zn 0)) + 1)) rfl ⟨⟨⟨trivial, (zk_vp rfl)⟩, (zk_vp rfl)⟩, (zk_vp rfl)⟩ ?_
  refine hr.2.1 _ (¬ (zg_i D 9 (zn 0)) + 1 = zg_i D 0 38) _ _ rfl (fun c20 => ?_) (fun c20 => ?_)
  · replace h := zk_t h c20
    exact hr.2.2.2 _ _ _ rfl trivial ⟨rfl, (congrArg (fun x => (([], x) : zx_S)) (Option.some.inj h))⟩
  · replace h := zk_f h c20
    refine hr.1 8 True _ _ (39, [some (.ref 0)], [], [], zp_l (zp_l (zp_i D 9 (zn 0) ((zg_i D 9 (zn 0)) + 1)) 0 39 (zg_l D 0 17)) 0 40 (zg_l D 0 18)) rfl trivial ?_
    exact hr.2.2.2 _ _ _ rfl trivial ⟨rfl, (congrArg (fun x => (([], x) : zx_S)) (Option.some.inj h))⟩
set_option maxRecDepth 100000 in
set_option maxHeartbeats 4000000 in
theorem c_g_R_bit {l : Launch} {E : zx_E} {d : Nat} {x1 : Int32} {D : zx_D} {q : Int32 × zx_D} (h : g_R_bit x1 D = some q) : zx_MR l E 141 (d + 1) [.ref 0, .int x1] ([], D) (fun v S => v = some (.int q.1) ∧ S = ([], q.2)) := by
  refine zx_ofR (K := ck_R_bit) rfl (by decide +kernel) rfl ok_R_bit (Nat.le_of_ble_eq_true rfl) (fun Zp hr => ?_)
  show Zp (0, [some (.ref 0), some (.int x1), none, none, none], [], [], D)
  rw [g_R_bit] at h
  refine hr.1 1 True _ _ (1, [some (.ref 0), some (.int x1), none, none, none], [.ref 0], [], D) rfl trivial ?_
  obtain ⟨q1, hc, h⟩ := zk_bind h
  refine hr.2.2.1 _ _ _ _ _ (d) rfl (by omega) (c_g_R_shift (l := l) (E := E) (d := d) hc) (fun v S hq => ?_)
  obtain ⟨rfl, rfl⟩ := hq
  clear hc
  refine hr.1 2 True _ _ (8, [some (.ref 0), some (.int x1), none, none, none], [.int (zg_i q1 0 22)], [], q1) rfl trivial ?_
  refine hr.2.1 _ (zg_i q1 0 22 = 0) _ _ rfl (fun c8 => ?_) (fun c8 => ?_)
  · replace h := zk_t h c8
    obtain ⟨w2, h⟩ := zk_ck h
    refine hr.1 14 True _ _ (35, [some (.ref 0), some (.int x1), some (.long (((zg_l q1 0 17) / 2048) * (((zg_i q1 5 (zn x1))).toInt64))), none, none], [.long (((zg_l q1 0 17) / 2048) * (((zg_i q1 5 (zn x1))).toInt64)), .long (zg_l q1 0 18)], [], q1) rfl ⟨trivial, (zk_vp w2)⟩ ?_
    obtain ⟨q2, hj, h⟩ := zk_bind h
    have J44 : ∀ (_ : True), Zp (44, [some (.ref 0), some (.int x1), some (.long (((zg_l q1 0 17) / 2048) * (((zg_i q1 5 (zn x1))).toInt64))), none, none], [.int q2], [], q1) := by
      intro _
      refine hr.1 4 True _ _ (50, [some (.ref 0), some (.int x1), some (.long (((zg_l q1 0 17) / 2048) * (((zg_i q1 5 (zn x1))).toInt64))), none, some (.int q2)], [.int q2, .int x1, .ref 0], [], q1) rfl trivial ?_
      obtain ⟨q3, hc, h⟩ := zk_bind h
      refine hr.2.2.1 _ _ _ _ _ (d) rfl (by omega) (c_g_R_learn (l := l) (E := E) (d := d) hc) (fun v S hq => ?_)
      obtain ⟨rfl, rfl⟩ := hq
      clear hc
      refine hr.1 2 True _ _ (56, [some (.ref 0), some (.int x1), some (.long (((zg_l q1 0 17) / 2048) * (((zg_i q1 5 (zn x1))).toInt64))), none, some (.int q2)], [.int q2, .ref 0], [], q3) rfl trivial ?_
      obtain ⟨q4, hj, h⟩ := zk_bind h
      have J69 : ∀ (_ : True), Zp (69, [some (.ref 0), some (.int x1), some (.long (((zg_l q1 0 17) / 2048) * (((zg_i q1 5 (zn x1))).toInt64))), none, some (.int q2)], [.long q4, .ref 0], [], q3) := by
        intro _
        refine hr.1 3 True _ _ (75, [some (.ref 0), some (.int x1), some (.long (((zg_l q1 0 17) / 2048) * (((zg_i q1 5 (zn x1))).toInt64))), none, some (.int q2)], [.int q2, .ref 0], [], zp_l q3 0 17 q4) rfl trivial ?_
        obtain ⟨q5, hj, h⟩ := zk_bind h
        have J91 : ∀ (_ : True), Zp (91, [some (.ref 0), some (.int x1), some (.long (((zg_l q1 0 17) / 2048) * (((zg_i q1 5 (zn x1))).toInt64))), none, some (.int q2)], [.long q5, .ref 0], [], zp_l q3 0 17 q4) := by
          intro _
          refine hr.1 2 True _ _ (95, [some (.ref 0), some (.int x1), some (.long (((zg_l q1 0 17) / 2048) * (((zg_i q1 5 (zn x1))).toInt64))), none, some (.int q2)], [.ref 0], [], zp_l (zp_l q3 0 17 q4) 0 18 q5) rfl trivial ?_
          obtain ⟨q6, hc, h⟩ := zk_bind h
          refine hr.2.2.1 _ _ _ _ _ (d) rfl (by omega) (c_g_R_told (l := l) (E := E) (d := d) hc) (fun v S hq => ?_)
          obtain ⟨rfl, rfl⟩ := hq
          clear hc
          refine hr.1 1 True _ _ (100, [some (.ref 0), some (.int x1), some (.long (((zg_l q1 0 17) / 2048) * (((zg_i q1 5 (zn x1))).toInt64))), none, some (.int q2)], [.int q2], [], q6) rfl trivial ?_
          refine hr.2.1 _ (q2 = 0) _ _ rfl (fun c100 => ?_) (fun c100 => ?_)
          · replace h := zk_t h c100
            refine hr.1 1 True _ _ (108, [some (.ref 0), some (.int x1), some (.long (((zg_l q1 0 17) / 2048) * (((zg_i q1 5 (zn x1))).toInt64))), none, some (.int q2)], [.int 0], [], q6) rfl trivial ?_
            exact hr.2.2.2 _ _ _ rfl trivial ⟨(congrArg (fun x => some (Value.int x.1)) (Option.some.inj h)), (congrArg (fun x => (([], x.2) : zx_S)) (Option.some.inj h))⟩
          · replace h := zk_f h c100
            refine hr.1 2 True _ _ (108, [some (.ref 0), some (.int x1), some (.long (((zg_l q1 0 17) / 2048) * (((zg_i q1 5 (zn x1))).toInt64))), none, some (.int q2)], [.int 1], [], q6) rfl trivial ?_
            exact hr.2.2.2 _ _ _ rfl trivial ⟨(congrArg (fun x => some (Value.int x.1)) (Option.some.inj h)), (congrArg (fun x => (([], x.2) : zx_S)) (Option.some.inj h))⟩
        clear h
        have h := hj
        clear hj
        refine hr.2.1 _ (q2 = 0) _ _ rfl (fun c75 => ?_) (fun c75 => ?_)
        · replace h := zk_t h c75
          refine hr.1 2 True _ _ (91, [some (.ref 0), some (.int x1), some (.long (((zg_l q1 0 17) / 2048) * (((zg_i q1 5 (zn x1))).toInt64))), none, some (.int q2)], [.long (zg_l q3 0 18), .ref 0], [], zp_l q3 0 17 q4) rfl trivial ?_
          replace h := Option.some.inj h
          subst h
          exact J91 trivial
        · replace h := zk_f h c75
          refine hr.1 5 True _ _ (91, [some (.ref 0), some (.int x1), some (.long (((zg_l q1 0 17) / 2048) * (((zg_i q1 5 (zn x1))).toInt64))), none, some (.int q2)], [.long ((zg_l q3 0 18) - (((zg_l q1 0 17) / 2048) * (((zg_i q1 5 (zn x1))).toInt64))), .ref 0], [], zp_l q3 0 17 q4) rfl trivial ?_
          replace h := Option.some.inj h
          subst h
          exact J91 trivial
      clear h
      have h := hj
      clear hj
      refine hr.2.1 _ (q2 = 0) _ _ rfl (fun c56 => ?_) (fun c56 => ?_)
      · replace h := zk_t h c56
        refine hr.1 1 True _ _ (69, [some (.ref 0), some (.int x1), some (.long (((zg_l q1 0 17) / 2048) * (((zg_i q1 5 (zn x1))).toInt64))), none, some (.int q2)], [.long (((zg_l q1 0 17) / 2048) * (((zg_i q1 5 (zn x1))).toInt64)), .ref 0], [], q3) rfl trivial ?_
        replace h := Option.some.inj h
        subst h
        exact J69 trivial
      · replace h := zk_f h c56
        refine hr.1 5 True _ _ (69, [some (.ref 0), some (.int x1), some (.long (((zg_l q1 0 17) / 2048) * (((zg_i q1 5 (zn x1))).toInt64))), none, some (.int q2)], [.long ((zg_l q3 0 17) - (((zg_l q1 0 17) / 2048) * (((zg_i q1 5 (zn x1))).toInt64))), .ref 0], [], q3) rfl trivial ?_
        replace h := Option.some.inj h
        subst h
        exact J69 trivial
    clear h
    have h := hj
    clear hj
    refine hr.2.1 _ (zg_l q1 0 18 < ((zg_l q1 0 17) / 2048) * (((zg_i q1 5 (zn x1))).toInt64)) _ _ rfl (fun c35 => ?_) (fun c35 => ?_)
    · replace h := zk_t h c35
      refine hr.1 1 True _ _ (44, [some (.ref 0), some (.int x1), some (.long (((zg_l q1 0 17) / 2048) * (((zg_i q1 5 (zn x1))).toInt64))), none, none], [.int 0], [], q1) rfl trivial ?_
      replace h := Option.some.inj h
      subst h
      exact J44 trivial
    · replace h := zk_f h c35
      refine hr.1 2 True _ _ (44, [some (.ref 0), some (.int x1), some (.long (((zg_l q1 0 17) / 2048) * (((zg_i q1 5 (zn x1))).toInt64))), none, none], [.int 1], [], q1) rfl trivial ?_
      replace h := Option.some.inj h
      subst h
      exact J44 trivial
  · replace h := zk_f h c8
    refine hr.1 1 True _ _ (12, [some (.ref 0), some (.int x1), none, none, none], [.int 0], [], q1) rfl trivial ?_
    exact hr.2.2.2 _ _ _ rfl trivial ⟨(congrArg (fun x => some (Value.int x.1)) (Option.some.inj h)), (congrArg (fun x => (([], x.2) : zx_S)) (Option.some.inj h))⟩
set_option maxRecDepth 100000 in
set_option maxHeartbeats 4000000 in
theorem c_g_R_tree {l : Launch} {E : zx_E} {d : Nat} {x1 : Int32} {x2 : Int32} {D : zx_D} {q : Int32 × zx_D} (h : g_R_tree x1 x2 D = some q) : zx_MR l E 144 (d + 2) [.ref 0, .int x1, .int x2] ([], D) (fun v S => v = some (.int q.1) ∧ S = ([], q.2)) := by
  refine zx_ofR (K := ck_R_tree) rfl (by decide +kernel) rfl ok_R_tree (Nat.le_of_ble_eq_true rfl) (fun Zp hr => ?_)
  show Zp (0, [some (.ref 0), some (.int x1), some (.int x2), none, none], [], [], D)
  have loop5 : ∀ (x1 : Int32) (x2 : Int32) (k : Nat) (x3 : Int32) (x4 : Int32) (D : zx_D) (q : Int32 × zx_D), g_R_tree_5 x1 x2 k x3 x4 D = some q → (∀ (e4 : Int32), Zp (29, [some (.ref 0), some (.int x1), some (.int x2), some (.int q.1), some (.int e4)], [], [], q.2)) → Zp (5, [some (.ref 0), some (.int x1), some (.int x2), some (.int x3), some (.int x4)], [], [], D) := by
    intro x1 x2 k
    induction k with
    | zero => intro x3 x4 D q h hx; exact (zk_no h).elim
    | succ k ih =>
      intro x3 x4 D q h hx
      rw [g_R_tree_5] at h
      refine hr.1 2 True _ _ (8, [some (.ref 0), some (.int x1), some (.int x2), some (.int x3), some (.int x4)], [.int x2, .int x4], [], D) rfl trivial ?_
      refine hr.2.1 _ (x2 ≤ x4) _ _ rfl (fun c8 => ?_) (fun c8 => ?_)
      · replace h := zk_t h c8
        replace h := Option.some.inj h
        subst h
        exact hx x4
      · replace h := zk_f h c8
        refine hr.1 7 True _ _ (18, [some (.ref 0), some (.int x1), some (.int x2), some (.int x3), some (.int x4)], [.int (x1 + x3), .ref 0, .int (2 * x3)], [], D) rfl trivial ?_
        obtain ⟨q1, hc, h⟩ := zk_bind h
        refine hr.2.2.1 _ _ _ _ _ (d + 1) rfl (by omega) (c_g_R_bit (l := l) (E := E) (d := d) hc) (fun v S hq => ?_)
        obtain ⟨rfl, rfl⟩ := hq
        clear hc
        refine hr.1 4 True _ _ (5, [some (.ref 0), some (.int x1), some (.int x2), some (.int ((2 * x3) + q1.1)), some (.int (x4 + 1))], [], [], q1.2) rfl trivial ?_
        exact ih ((2 * x3) + q1.1) (x4 + 1) q1.2 _ h hx
  rw [g_R_tree] at h
  refine hr.1 4 True _ _ (5, [some (.ref 0), some (.int x1), some (.int x2), some (.int 1), some (.int 0)], [], [], D) rfl trivial ?_
  obtain ⟨q2, hc, h⟩ := zk_bind h
  refine loop5 x1 x2 10000 1 0 D q2 hc (fun e4 => ?_)
  clear hc
  refine hr.1 5 True _ _ (34, [some (.ref 0), some (.int x1), some (.int x2), some (.int q2.1), some (.int e4)], [.int (q2.1 - (zo_shl 1 x2))], [], q2.2) rfl trivial ?_
  exact hr.2.2.2 _ _ _ rfl trivial ⟨(congrArg (fun x => some (Value.int x.1)) (Option.some.inj h)), (congrArg (fun x => (([], x.2) : zx_S)) (Option.some.inj h))⟩
set_option maxRecDepth 100000 in
set_option maxHeartbeats 4000000 in
theorem c_g_R_lengthTaken {l : Launch} {E : zx_E} {d : Nat} {x1 : Int32} {x2 : Int32} {D : zx_D} {q : Int32 × zx_D} (h : g_R_lengthTaken x1 x2 D = some q) : zx_MR l E 153 (d + 3) [.ref 0, .int x1, .int x2] ([], D) (fun v S => v = some (.int q.1) ∧ S = ([], q.2)) := by
  refine zx_ofR (K := ck_R_lengthTaken) rfl (by decide +kernel) rfl ok_R_lengthTaken (Nat.le_of_ble_eq_true rfl) (fun Zp hr => ?_)
  show Zp (0, [some (.ref 0), some (.int x1), some (.int x2)], [], [], D)
  rw [g_R_lengthTaken] at h
  refine hr.1 2 True _ _ (2, [some (.ref 0), some (.int x1), some (.int x2)], [.int x1, .ref 0], [], D) rfl trivial ?_
  obtain ⟨q1, hc, h⟩ := zk_bind h
  refine hr.2.2.1 _ _ _ _ _ (d + 2) rfl (by omega) (c_g_R_bit (l := l) (E := E) (d := d + 1) hc) (fun v S hq => ?_)
  obtain ⟨rfl, rfl⟩ := hq
  clear hc
  refine hr.2.1 _ (¬ q1.1 = 0) _ _ rfl (fun c5 => ?_) (fun c5 => ?_)
  · replace h := zk_t h c5
    refine hr.1 4 True _ _ (28, [some (.ref 0), some (.int x1), some (.int x2)], [.int (x1 + 1), .ref 0], [], q1.2) rfl trivial ?_
    obtain ⟨q2, hc, h⟩ := zk_bind h
    refine hr.2.2.1 _ _ _ _ _ (d + 2) rfl (by omega) (c_g_R_bit (l := l) (E := E) (d := d + 1) hc) (fun v S hq => ?_)
    obtain ⟨rfl, rfl⟩ := hq
    clear hc
    refine hr.2.1 _ (¬ q2.1 = 0) _ _ rfl (fun c31 => ?_) (fun c31 => ?_)
    · replace h := zk_t h c31
      refine hr.1 6 True _ _ (63, [some (.ref 0), some (.int x1), some (.int x2)], [.int 8, .int (x1 + 258), .ref 0, .int 18], [], q2.2) rfl trivial ?_
      obtain ⟨q3, hc, h⟩ := zk_bind h
      refine hr.2.2.1 _ _ _ _ _ (d + 2) rfl (by omega) (c_g_R_tree (l := l) (E := E) (d := d) hc) (fun v S hq => ?_)
      obtain ⟨rfl, rfl⟩ := hq
      clear hc
      refine hr.1 1 True _ _ (67, [some (.ref 0), some (.int x1), some (.int x2)], [.int (18 + q3.1)], [], q3.2) rfl trivial ?_
      exact hr.2.2.2 _ _ _ rfl trivial ⟨(congrArg (fun x => some (Value.int x.1)) (Option.some.inj h)), (congrArg (fun x => (([], x.2) : zx_S)) (Option.some.inj h))⟩
    · replace h := zk_f h c31
      refine hr.1 10 True _ _ (48, [some (.ref 0), some (.int x1), some (.int x2)], [.int 3, .int ((x1 + 130) + (8 * x2)), .ref 0, .int 10], [], q2.2) rfl trivial ?_
      obtain ⟨q4, hc, h⟩ := zk_bind h
      refine hr.2.2.1 _ _ _ _ _ (d + 2) rfl (by omega) (c_g_R_tree (l := l) (E := E) (d := d) hc) (fun v S hq => ?_)
      obtain ⟨rfl, rfl⟩ := hq
      clear hc
      refine hr.1 1 True _ _ (52, [some (.ref 0), some (.int x1), some (.int x2)], [.int (10 + q4.1)], [], q4.2) rfl trivial ?_
      exact hr.2.2.2 _ _ _ rfl trivial ⟨(congrArg (fun x => some (Value.int x.1)) (Option.some.inj h)), (congrArg (fun x => (([], x.2) : zx_S)) (Option.some.inj h))⟩
  · replace h := zk_f h c5
    refine hr.1 10 True _ _ (19, [some (.ref 0), some (.int x1), some (.int x2)], [.int 3, .int ((x1 + 2) + (8 * x2)), .ref 0, .int 2], [], q1.2) rfl trivial ?_
    obtain ⟨q5, hc, h⟩ := zk_bind h
    refine hr.2.2.1 _ _ _ _ _ (d + 2) rfl (by omega) (c_g_R_tree (l := l) (E := E) (d := d) hc) (fun v S hq => ?_)
    obtain ⟨rfl, rfl⟩ := hq
    clear hc
    refine hr.1 1 True _ _ (23, [some (.ref 0), some (.int x1), some (.int x2)], [.int (2 + q5.1)], [], q5.2) rfl trivial ?_
    exact hr.2.2.2 _ _ _ rfl trivial ⟨(congrArg (fun x => some (Value.int x.1)) (Option.some.inj h)), (congrArg (fun x => (([], x.2) : zx_S)) (Option.some.inj h))⟩
set_option maxRecDepth 100000 in
set_option maxHeartbeats 4000000 in
theorem c_g_R_give {l : Launch} {E : zx_E} {d : Nat} {x1 : Int32} {D : zx_D} {q : zx_D} (h : g_R_give x1 D = some q) : zx_MR l E 148 d [.ref 0, .int x1] ([], D) (fun v S => v = none ∧ S = ([], q)) := by
  refine zx_ofR (K := ck_R_give) rfl (by decide +kernel) rfl ok_R_give (Nat.le_of_ble_eq_true rfl) (fun Zp hr => ?_)
  show Zp (0, [some (.ref 0), some (.int x1)], [], [], D)
  rw [g_R_give] at h
  obtain ⟨w2, h⟩ := zk_ck h
  refine hr.1 18 True _ _ (30, [some (.ref 0), some (.int x1)], [], [], zp_i (zp_i (zp_i D 3 (zn (zg_i D 0 5)) x1) 0 5 ((zg_i D 0 5) + 1)) 0 21 ((zg_i D 0 21) - 1)) rfl ⟨trivial, (zk_vp w2)⟩ ?_
  exact hr.2.2.2 _ _ _ rfl trivial ⟨rfl, (congrArg (fun x => (([], x) : zx_S)) (Option.some.inj h))⟩
set_option maxRecDepth 100000 in
set_option maxHeartbeats 4000000 in
theorem c_g_R_back {l : Launch} {E : zx_E} {d : Nat} {x1 : Int32} {x2 : Int32} {D : zx_D} {q : zx_D} (h : g_R_back x1 x2 D = some q) : zx_MR l E 152 (d + 1) [.ref 0, .int x1, .int x2] ([], D) (fun v S => v = none ∧ S = ([], q)) := by
  refine zx_ofR (K := ck_R_back) rfl (by decide +kernel) rfl ok_R_back (Nat.le_of_ble_eq_true rfl) (fun Zp hr => ?_)
  show Zp (0, [some (.ref 0), some (.int x1), some (.int x2), none], [], [], D)
  have loop39 : ∀ (x1 : Int32) (x2 : Int32) (k : Nat) (x3 : Int32) (D : zx_D) (q : zx_D), g_R_back_39 x1 x2 k x3 D = some q → (∀ (e3 : Int32), Zp (76, [some (.ref 0), some (.int x1), some (.int x2), some (.int e3)], [], [], q)) → Zp (39, [some (.ref 0), some (.int x1), some (.int x2), some (.int x3)], [], [], D) := by
    intro x1 x2 k
    induction k with
    | zero => intro x3 D q h hx; exact (zk_no h).elim
    | succ k ih =>
      intro x3 D q h hx
      rw [g_R_back_39] at h
      refine hr.1 2 True _ _ (41, [some (.ref 0), some (.int x1), some (.int x2), some (.int x3)], [.int x1, .int x3], [], D) rfl trivial ?_
      refine hr.2.1 _ (x1 ≤ x3) _ _ rfl (fun c41 => ?_) (fun c41 => ?_)
      · replace h := zk_t h c41
        replace h := Option.some.inj h
        subst h
        exact hx x3
      · replace h := zk_f h c41
        refine hr.1 2 True _ _ (48, [some (.ref 0), some (.int x1), some (.int x2), some (.int x3)], [.int (zg_i D 0 22)], [], D) rfl trivial ?_
        refine hr.2.1 _ (¬ zg_i D 0 22 = 0) _ _ rfl (fun c48 => ?_) (fun c48 => ?_)
        · replace h := zk_t h c48
          replace h := Option.some.inj h
          subst h
          exact hx x3
        · replace h := zk_f h c48
          obtain ⟨w7, h⟩ := zk_ck h
          refine hr.1 10 True _ _ (67, [some (.ref 0), some (.int x1), some (.int x2), some (.int x3)], [.int (zg_i D 3 (zn ((zg_i D 0 5) - (((zg_l D 0 13)).toInt32)))), .ref 0], [], D) rfl ⟨trivial, (zk_vp w7)⟩ ?_
          obtain ⟨q3, hc, h⟩ := zk_bind h
          refine hr.2.2.1 _ _ _ _ _ (d) rfl (by omega) (c_g_R_give (l := l) (E := E) (d := d) hc) (fun v S hq => ?_)
          obtain ⟨rfl, rfl⟩ := hq
          clear hc
          refine hr.1 2 True _ _ (39, [some (.ref 0), some (.int x1), some (.int x2), some (.int (x3 + 1))], [], [], q3) rfl trivial ?_
          exact ih (x3 + 1) q3 _ h hx
  rw [g_R_back] at h
  refine hr.1 3 True _ _ (5, [some (.ref 0), some (.int x1), some (.int x2), none], [.int (zg_i D 0 22), .ref 0], [], D) rfl trivial ?_
  obtain ⟨q2, hj, h⟩ := zk_bind h
  have J34 : ∀ (_ : True), Zp (34, [some (.ref 0), some (.int x1), some (.int x2), none], [.int q2, .ref 0], [], D) := by
    intro _
    obtain ⟨w8, h⟩ := zk_ck h
    refine hr.1 3 True _ _ (39, [some (.ref 0), some (.int x1), some (.int x2), some (.int 0)], [], [], zp_i D 0 22 q2) rfl ⟨trivial, w8⟩ ?_
    obtain ⟨q4, hc, h⟩ := zk_bind h
    refine loop39 x1 x2 10000 0 (zp_i D 0 22 q2) q4 hc (fun e3 => ?_)
    clear hc
    refine hr.1 5 True _ _ (85, [some (.ref 0), some (.int x1), some (.int x2), some (.int e3)], [.int (zg_i q4 0 22), .int x2, .ref 9], [], q4) rfl trivial ?_
    refine hr.2.1 _ (zg_i q4 0 22 = 0) _ _ rfl (fun c85 => ?_) (fun c85 => ?_)
    · replace h := zk_t h c85
      obtain ⟨w9, h⟩ := zk_ck h
      obtain ⟨w10, h⟩ := zk_ck h
      refine hr.1 7 True _ _ (106, [some (.ref 0), some (.int x1), some (.int x2), some (.int e3)], [], [], zp_i q4 9 (zn x2) ((zg_i q4 9 (zn x2)) + 1)) rfl ⟨⟨trivial, (zk_vp w9)⟩, (zk_vp w10)⟩ ?_
      exact hr.2.2.2 _ _ _ rfl trivial ⟨rfl, (congrArg (fun x => (([], x) : zx_S)) (Option.some.inj h))⟩
    · replace h := zk_f h c85
      obtain ⟨w11, h⟩ := zk_ck h
      obtain ⟨w12, h⟩ := zk_ck h
      refine hr.1 6 True _ _ (106, [some (.ref 0), some (.int x1), some (.int x2), some (.int e3)], [], [], zp_i q4 9 (zn x2) (zg_i q4 9 (zn x2))) rfl ⟨⟨trivial, (zk_vp w11)⟩, (zk_vp w12)⟩ ?_
      exact hr.2.2.2 _ _ _ rfl trivial ⟨rfl, (congrArg (fun x => (([], x) : zx_S)) (Option.some.inj h))⟩
  clear h
  have h := hj
  clear hj
  refine hr.2.1 _ (¬ zg_i D 0 22 = 0) _ _ rfl (fun c5 => ?_) (fun c5 => ?_)
  · replace h := zk_t h c5
    refine hr.1 2 True _ _ (34, [some (.ref 0), some (.int x1), some (.int x2), none], [.int 1, .ref 0], [], D) rfl trivial ?_
    replace h := Option.some.inj h
    subst h
    exact J34 trivial
  · replace h := zk_f h c5
    refine hr.1 3 True _ _ (13, [some (.ref 0), some (.int x1), some (.int x2), none], [.ref 0, .long (zg_l D 0 13), .ref 0], [], D) rfl trivial ?_
    obtain ⟨q1, hc, h⟩ := zk_bind h
    refine hr.2.2.1 _ _ _ _ _ (d) rfl (by omega) (c_g_R_bytes (l := l) (E := E) (d := d) hc) (fun v S hq => ?_)
    obtain ⟨rfl, rfl⟩ := hq
    clear hc
    refine hr.1 1 True _ _ (17, [some (.ref 0), some (.int x1), some (.int x2), none], [.long ((q1).toInt64), .long (zg_l D 0 13), .ref 0], [], D) rfl trivial ?_
    refine hr.2.1 _ ((q1).toInt64 < zg_l D 0 13) _ _ rfl (fun c17 => ?_) (fun c17 => ?_)
    · replace h := zk_t h c17
      refine hr.1 2 True _ _ (34, [some (.ref 0), some (.int x1), some (.int x2), none], [.int 1, .ref 0], [], D) rfl trivial ?_
      replace h := Option.some.inj h
      subst h
      exact J34 trivial
    · replace h := zk_f h c17
      refine hr.1 3 True _ _ (26, [some (.ref 0), some (.int x1), some (.int x2), none], [.int (zg_i D 0 21), .int x1, .ref 0], [], D) rfl trivial ?_
      refine hr.2.1 _ (x1 ≤ zg_i D 0 21) _ _ rfl (fun c26 => ?_) (fun c26 => ?_)
      · replace h := zk_t h c26
        refine hr.1 1 True _ _ (34, [some (.ref 0), some (.int x1), some (.int x2), none], [.int 0, .ref 0], [], D) rfl trivial ?_
        replace h := Option.some.inj h
        subst h
        exact J34 trivial
      · replace h := zk_f h c26
        refine hr.1 2 True _ _ (34, [some (.ref 0), some (.int x1), some (.int x2), none], [.int 1, .ref 0], [], D) rfl trivial ?_
        replace h := Option.some.inj h
        subst h
        exact J34 trivial
set_option maxRecDepth 100000 in
set_option maxHeartbeats 4000000 in
theorem c_g_R_repeated {l : Launch} {E : zx_E} {d : Nat} {x1 : Int32} {x2 : Int32} {D : zx_D} {q : zx_D} (h : g_R_repeated x1 x2 D = some q) : zx_MR l E 150 (d + 4) [.ref 0, .int x1, .int x2] ([], D) (fun v S => v = none ∧ S = ([], q)) := by
  refine zx_ofR (K := ck_R_repeated) rfl (by decide +kernel) rfl ok_R_repeated (Nat.le_of_ble_eq_true rfl) (fun Zp hr => ?_)
  show Zp (0, [some (.ref 0), some (.int x1), some (.int x2), none], [], [], D)
  rw [g_R_repeated] at h
  refine hr.1 2 True _ _ (2, [some (.ref 0), some (.int x1), some (.int x2), none], [.int x1, .ref 0], [], D) rfl trivial ?_
  obtain ⟨q1, hc, h⟩ := zk_bind h
  refine hr.2.2.1 _ _ _ _ _ (d + 3) rfl (by omega) (c_g_R_turn (l := l) (E := E) (d := d + 3) hc) (fun v S hq => ?_)
  obtain ⟨rfl, rfl⟩ := hq
  clear hc
  refine hr.1 3 True _ _ (10, [some (.ref 0), some (.int x1), some (.int x2), none], [.int x2, .int 7092, .ref 0], [], q1) rfl trivial ?_
  obtain ⟨q2, hc, h⟩ := zk_bind h
  refine hr.2.2.1 _ _ _ _ _ (d + 3) rfl (by omega) (c_g_R_lengthTaken (l := l) (E := E) (d := d) hc) (fun v S hq => ?_)
  obtain ⟨rfl, rfl⟩ := hq
  clear hc
  refine hr.1 5 True _ _ (21, [some (.ref 0), some (.int x1), some (.int x2), some (.int q2.1)], [.int 7, .int (zg_i q2.2 0 12), .ref 0], [], q2.2) rfl trivial ?_
  refine hr.2.1 _ (7 ≤ zg_i q2.2 0 12) _ _ rfl (fun c21 => ?_) (fun c21 => ?_)
  · replace h := zk_t h c21
    refine hr.1 7 True _ _ (39, [some (.ref 0), some (.int x1), some (.int x2), some (.int q2.1)], [.int (4 + x1), .int q2.1, .ref 0], [], zp_i q2.2 0 12 11) rfl trivial ?_
    obtain ⟨q3, hc, h⟩ := zk_bind h
    refine hr.2.2.1 _ _ _ _ _ (d + 3) rfl (by omega) (c_g_R_back (l := l) (E := E) (d := d + 2) hc) (fun v S hq => ?_)
    obtain ⟨rfl, rfl⟩ := hq
    clear hc
    exact hr.2.2.2 _ _ _ rfl trivial ⟨rfl, (congrArg (fun x => (([], x) : zx_S)) (Option.some.inj h))⟩
  · replace h := zk_f h c21
    refine hr.1 8 True _ _ (39, [some (.ref 0), some (.int x1), some (.int x2), some (.int q2.1)], [.int (4 + x1), .int q2.1, .ref 0], [], zp_i q2.2 0 12 8) rfl trivial ?_
    obtain ⟨q4, hc, h⟩ := zk_bind h
    refine hr.2.2.1 _ _ _ _ _ (d + 3) rfl (by omega) (c_g_R_back (l := l) (E := E) (d := d + 2) hc) (fun v S hq => ?_)
    obtain ⟨rfl, rfl⟩ := hq
    clear hc
    exact hr.2.2.2 _ _ _ rfl trivial ⟨rfl, (congrArg (fun x => (([], x) : zx_S)) (Option.some.inj h))⟩
set_option maxRecDepth 100000 in
set_option maxHeartbeats 4000000 in
theorem c_g_R_even {l : Launch} {E : zx_E} {d : Nat} {D : zx_D} {q : Int32 × zx_D} (h : g_R_even D = some q) : zx_MR l E 143 (d + 1) [.ref 0] ([], D) (fun v S => v = some (.int q.1) ∧ S = ([], q.2)) := by
  refine zx_ofR (K := ck_R_even) rfl (by decide +kernel) rfl ok_R_even (Nat.le_of_ble_eq_true rfl) (fun Zp hr => ?_)
  show Zp (0, [some (.ref 0), none], [], [], D)
  rw [g_R_even] at h
  refine hr.1 1 True _ _ (1, [some (.ref 0), none], [.ref 0], [], D) rfl trivial ?_
  obtain ⟨q1, hc, h⟩ := zk_bind h
  refine hr.2.2.1 _ _ _ _ _ (d) rfl (by omega) (c_g_R_shift (l := l) (E := E) (d := d) hc) (fun v S hq => ?_)
  obtain ⟨rfl, rfl⟩ := hq
  clear hc
  refine hr.1 2 True _ _ (8, [some (.ref 0), none], [.int (zg_i q1 0 22)], [], q1) rfl trivial ?_
  refine hr.2.1 _ (zg_i q1 0 22 = 0) _ _ rfl (fun c8 => ?_) (fun c8 => ?_)
  · replace h := zk_t h c8
    refine hr.1 10 True _ _ (33, [some (.ref 0), none], [.long ((zg_l q1 0 17) / 2), .long (zg_l q1 0 18)], [], zp_l q1 0 17 ((zg_l q1 0 17) / 2)) rfl trivial ?_
    obtain ⟨q2, hj, h⟩ := zk_bind h
    have J42 : ∀ (_ : True), Zp (42, [some (.ref 0), none], [.int q2], [], zp_l q1 0 17 ((zg_l q1 0 17) / 2)) := by
      intro _
      refine hr.1 3 True _ _ (45, [some (.ref 0), some (.int q2)], [.int q2, .ref 0], [], zp_l q1 0 17 ((zg_l q1 0 17) / 2)) rfl trivial ?_
      obtain ⟨q3, hj, h⟩ := zk_bind h
      have J64 : ∀ (_ : True), Zp (64, [some (.ref 0), some (.int q2)], [.long q3, .ref 0], [], zp_l q1 0 17 ((zg_l q1 0 17) / 2)) := by
        intro _
        refine hr.1 2 True _ _ (68, [some (.ref 0), some (.int q2)], [.ref 0], [], zp_l (zp_l q1 0 17 ((zg_l q1 0 17) / 2)) 0 18 q3) rfl trivial ?_
        obtain ⟨q4, hc, h⟩ := zk_bind h
        refine hr.2.2.1 _ _ _ _ _ (d) rfl (by omega) (c_g_R_told (l := l) (E := E) (d := d) hc) (fun v S hq => ?_)
        obtain ⟨rfl, rfl⟩ := hq
        clear hc
        refine hr.1 1 True _ _ (72, [some (.ref 0), some (.int q2)], [.int q2], [], q4) rfl trivial ?_
        refine hr.2.1 _ (q2 = 0) _ _ rfl (fun c72 => ?_) (fun c72 => ?_)
        · replace h := zk_t h c72
          refine hr.1 1 True _ _ (80, [some (.ref 0), some (.int q2)], [.int 0], [], q4) rfl trivial ?_
          exact hr.2.2.2 _ _ _ rfl trivial ⟨(congrArg (fun x => some (Value.int x.1)) (Option.some.inj h)), (congrArg (fun x => (([], x.2) : zx_S)) (Option.some.inj h))⟩
        · replace h := zk_f h c72
          refine hr.1 2 True _ _ (80, [some (.ref 0), some (.int q2)], [.int 1], [], q4) rfl trivial ?_
          exact hr.2.2.2 _ _ _ rfl trivial ⟨(congrArg (fun x => some (Value.int x.1)) (Option.some.inj h)), (congrArg (fun x => (([], x.2) : zx_S)) (Option.some.inj h))⟩
      clear h
      have h := hj
      clear hj
      refine hr.2.1 _ (q2 = 0) _ _ rfl (fun c45 => ?_) (fun c45 => ?_)
      · replace h := zk_t h c45
        refine hr.1 2 True _ _ (64, [some (.ref 0), some (.int q2)], [.long (zg_l q1 0 18), .ref 0], [], zp_l q1 0 17 ((zg_l q1 0 17) / 2)) rfl trivial ?_
        replace h := Option.some.inj h
        subst h
        exact J64 trivial
      · replace h := zk_f h c45
        refine hr.1 6 True _ _ (64, [some (.ref 0), some (.int q2)], [.long ((zg_l q1 0 18) - ((zg_l q1 0 17) / 2)), .ref 0], [], zp_l q1 0 17 ((zg_l q1 0 17) / 2)) rfl trivial ?_
        replace h := Option.some.inj h
        subst h
        exact J64 trivial
    clear h
    have h := hj
    clear hj
    refine hr.2.1 _ (zg_l q1 0 18 < (zg_l q1 0 17) / 2) _ _ rfl (fun c33 => ?_) (fun c33 => ?_)
    · replace h := zk_t h c33
      refine hr.1 1 True _ _ (42, [some (.ref 0), none], [.int 0], [], zp_l q1 0 17 ((zg_l q1 0 17) / 2)) rfl trivial ?_
      replace h := Option.some.inj h
      subst h
      exact J42 trivial
    · replace h := zk_f h c33
      refine hr.1 2 True _ _ (42, [some (.ref 0), none], [.int 1], [], zp_l q1 0 17 ((zg_l q1 0 17) / 2)) rfl trivial ?_
      replace h := Option.some.inj h
      subst h
      exact J42 trivial
  · replace h := zk_f h c8
    refine hr.1 1 True _ _ (12, [some (.ref 0), none], [.int 0], [], q1) rfl trivial ?_
    exact hr.2.2.2 _ _ _ rfl trivial ⟨(congrArg (fun x => some (Value.int x.1)) (Option.some.inj h)), (congrArg (fun x => (([], x.2) : zx_S)) (Option.some.inj h))⟩
set_option maxRecDepth 100000 in
set_option maxHeartbeats 4000000 in
theorem c_g_R_backwards {l : Launch} {E : zx_E} {d : Nat} {x1 : Int32} {x2 : Int32} {D : zx_D} {q : Int32 × zx_D} (h : g_R_backwards x1 x2 D = some q) : zx_MR l E 145 (d + 2) [.ref 0, .int x1, .int x2] ([], D) (fun v S => v = some (.int q.1) ∧ S = ([], q.2)) := by
  refine zx_ofR (K := ck_R_backwards) rfl (by decide +kernel) rfl ok_R_backwards (Nat.le_of_ble_eq_true rfl) (fun Zp hr => ?_)
  show Zp (0, [some (.ref 0), some (.int x1), some (.int x2), none, none, none, none], [], [], D)
  have loop8 : ∀ (x1 : Int32) (x2 : Int32) (k : Nat) (x3 : Int32) (x4 : Int32) (x5 : Int32) (D : zx_D) (o6 : Option Value) (q : Int32 × zx_D), g_R_backwards_8 x1 x2 k x3 x4 x5 D = some q → (∀ (e3 : Int32) (e5 : Int32) (o6 : Option Value), Zp (46, [some (.ref 0), some (.int x1), some (.int x2), some (.int e3), some (.int q.1), some (.int e5), o6], [], [], q.2)) → Zp (8, [some (.ref 0), some (.int x1), some (.int x2), some (.int x3), some (.int x4), some (.int x5), o6], [], [], D) := by
    intro x1 x2 k
    induction k with
    | zero => intro x3 x4 x5 D o6 q h hx; exact (zk_no h).elim
    | succ k ih =>
      intro x3 x4 x5 D o6 q h hx
      rw [g_R_backwards_8] at h
      refine hr.1 2 True _ _ (11, [some (.ref 0), some (.int x1), some (.int x2), some (.int x3), some (.int x4), some (.int x5), o6], [.int x2, .int x5], [], D) rfl trivial ?_
      refine hr.2.1 _ (x2 ≤ x5) _ _ rfl (fun c11 => ?_) (fun c11 => ?_)
      · replace h := zk_t h c11
        replace h := Option.some.inj h
        subst h
        exact hx x3 x5 o6
      · replace h := zk_f h c11
        refine hr.1 4 True _ _ (18, [some (.ref 0), some (.int x1), some (.int x2), some (.int x3), some (.int x4), some (.int x5), o6], [.int (x1 + x3), .ref 0], [], D) rfl trivial ?_
        obtain ⟨q1, hc, h⟩ := zk_bind h
        refine hr.2.2.1 _ _ _ _ _ (d + 1) rfl (by omega) (c_g_R_bit (l := l) (E := E) (d := d) hc) (fun v S hq => ?_)
        obtain ⟨rfl, rfl⟩ := hq
        clear hc
        refine hr.1 15 True _ _ (8, [some (.ref 0), some (.int x1), some (.int x2), some (.int ((2 * x3) + q1.1)), some (.int (x4 ||| (zo_shl q1.1 x5))), some (.int (x5 + 1)), some (.int q1.1)], [], [], q1.2) rfl trivial ?_
        exact ih ((2 * x3) + q1.1) (x4 ||| (zo_shl q1.1 x5)) (x5 + 1) q1.2 _ _ h hx
  rw [g_R_backwards] at h
  refine hr.1 6 True _ _ (8, [some (.ref 0), some (.int x1), some (.int x2), some (.int 1), some (.int 0), some (.int 0), none], [], [], D) rfl trivial ?_
  obtain ⟨q2, hc, h⟩ := zk_bind h
  refine loop8 x1 x2 10000 1 0 0 D none q2 hc (fun e3 e5 o6 => ?_)
  clear hc
  refine hr.1 1 True _ _ (48, [some (.ref 0), some (.int x1), some (.int x2), some (.int e3), some (.int q2.1), some (.int e5), o6], [.int q2.1], [], q2.2) rfl trivial ?_
  exact hr.2.2.2 _ _ _ rfl trivial ⟨(congrArg (fun x => some (Value.int x.1)) (Option.some.inj h)), (congrArg (fun x => (([], x.2) : zx_S)) (Option.some.inj h))⟩
set_option maxRecDepth 100000 in
set_option maxHeartbeats 4000000 in
theorem c_g_R_distance {l : Launch} {E : zx_E} {d : Nat} {x1 : Int32} {D : zx_D} {q : Int64 × zx_D} (h : g_R_distance x1 D = some q) : zx_MR l E 154 (d + 3) [.ref 0, .int x1] ([], D) (fun v S => v = some (.long q.1) ∧ S = ([], q.2)) := by
  refine zx_ofR (K := ck_R_distance) rfl (by decide +kernel) rfl ok_R_distance (Nat.le_of_ble_eq_true rfl) (fun Zp hr => ?_)
  show Zp (0, [some (.ref 0), some (.int x1), none, none, none, none, none, none, none], [], [], D)
  have loop97 : ∀ (x3 : Int32) (x4 : Int64) (k : Nat) (x6 : Int64) (x8 : Int32) (D : zx_D) (x1 : Int32) (x2 : Int32) (q : Int64 × zx_D), g_R_distance_97 x3 x4 k x6 x8 D = some q → (∀ (e8 : Int32), Zp (123, [some (.ref 0), some (.int x1), some (.int x2), some (.int x3), some (.long x4), none, some (.long q.1), none, some (.int e8)], [], [], q.2)) → Zp (97, [some (.ref 0), some (.int x1), some (.int x2), some (.int x3), some (.long x4), none, some (.long x6), none, some (.int x8)], [], [], D) := by
    intro x3 x4 k
    induction k with
    | zero => intro x6 x8 D x1 x2 q h hx; exact (zk_no h).elim
    | succ k ih =>
      intro x6 x8 D x1 x2 q h hx
      rw [g_R_distance_97] at h
      refine hr.1 2 True _ _ (100, [some (.ref 0), some (.int x1), some (.int x2), some (.int x3), some (.long x4), none, some (.long x6), none, some (.int x8)], [.int x3, .int x8], [], D) rfl trivial ?_
      refine hr.2.1 _ (x3 ≤ x8) _ _ rfl (fun c100 => ?_) (fun c100 => ?_)
      · replace h := zk_t h c100
        replace h := Option.some.inj h
        subst h
        exact hx x8
      · replace h := zk_f h c100
        refine hr.1 4 True _ _ (110, [some (.ref 0), some (.int x1), some (.int x2), some (.int x3), some (.long x4), none, some (.long x6), none, some (.int x8)], [.ref 0, .long (2 * x6)], [], D) rfl trivial ?_
        obtain ⟨q4, hc, h⟩ := zk_bind h
        refine hr.2.2.1 _ _ _ _ _ (d + 2) rfl (by omega) (c_g_R_even (l := l) (E := E) (d := d + 1) hc) (fun v S hq => ?_)
        obtain ⟨rfl, rfl⟩ := hq
        clear hc
        refine hr.1 5 True _ _ (97, [some (.ref 0), some (.int x1), some (.int x2), some (.int x3), some (.long x4), none, some (.long ((2 * x6) + ((q4.1).toInt64))), none, some (.int (x8 + 1))], [], [], q4.2) rfl trivial ?_
        exact ih ((2 * x6) + ((q4.1).toInt64)) (x8 + 1) q4.2 _ _ _ h hx
  rw [g_R_distance] at h
  refine hr.1 5 True _ _ (8, [some (.ref 0), some (.int x1), none, none, none, none, none, none, none], [.int 5, .int x1, .int 64, .int 7608, .ref 0], [], D) rfl trivial ?_
  obtain ⟨q1, hj, h⟩ := zk_bind h
  have J18 : ∀ (_ : True), Zp (18, [some (.ref 0), some (.int x1), none, none, none, none, none, none, none], [.int q1, .int 64, .int 7608, .ref 0], [], D) := by
    intro _
    refine hr.1 3 True _ _ (22, [some (.ref 0), some (.int x1), none, none, none, none, none, none, none], [.int 6, .int (7608 + (64 * q1)), .ref 0], [], D) rfl trivial ?_
    obtain ⟨q2, hc, h⟩ := zk_bind h
    refine hr.2.2.1 _ _ _ _ _ (d + 2) rfl (by omega) (c_g_R_tree (l := l) (E := E) (d := d) hc) (fun v S hq => ?_)
    obtain ⟨rfl, rfl⟩ := hq
    clear hc
    refine hr.1 3 True _ _ (28, [some (.ref 0), some (.int x1), some (.int q2.1), none, none, none, none, none, none], [.int 4, .int q2.1], [], q2.2) rfl trivial ?_
    refine hr.2.1 _ (4 ≤ q2.1) _ _ rfl (fun c28 => ?_) (fun c28 => ?_)
    · replace h := zk_t h c28
      refine hr.1 9 True _ _ (45, [some (.ref 0), some (.int x1), some (.int q2.1), some (.int ((q2.1 / 2) - 1)), none, none, none, none, none], [.int (zo_rem q2.1 2)], [], q2.2) rfl trivial ?_
      obtain ⟨q3, hj, h⟩ := zk_bind h
      have J57 : ∀ (_ : True), Zp (57, [some (.ref 0), some (.int x1), some (.int q2.1), some (.int ((q2.1 / 2) - 1)), none, none, none, none, none], [.long q3], [], q2.2) := by
        intro _
        refine hr.1 5 True _ _ (64, [some (.ref 0), some (.int x1), some (.int q2.1), some (.int ((q2.1 / 2) - 1)), some (.long (zo_lshl q3 ((q2.1 / 2) - 1))), none, none, none, none], [.int 14, .int q2.1], [], q2.2) rfl trivial ?_
        refine hr.2.1 _ (14 ≤ q2.1) _ _ rfl (fun c64 => ?_) (fun c64 => ?_)
        · replace h := zk_t h c64
          refine hr.1 4 True _ _ (97, [some (.ref 0), some (.int x1), some (.int q2.1), some (.int ((q2.1 / 2) - 1)), some (.long (zo_lshl q3 ((q2.1 / 2) - 1))), none, some (.long 0), none, some (.int 4)], [], [], q2.2) rfl trivial ?_
          obtain ⟨q5, hc, h⟩ := zk_bind h
          refine loop97 ((q2.1 / 2) - 1) (zo_lshl q3 ((q2.1 / 2) - 1)) 10000 0 4 q2.2 x1 q2.1 q5 hc (fun e8 => ?_)
          clear hc
          refine hr.1 10 True _ _ (139, [some (.ref 0), some (.int x1), some (.int q2.1), some (.int ((q2.1 / 2) - 1)), some (.long (zo_lshl q3 ((q2.1 / 2) - 1))), none, some (.long q5.1), none, some (.int e8)], [.int 4, .int 8312, .ref 0, .long (((zo_lshl q3 ((q2.1 / 2) - 1)) + 1) + (16 * q5.1))], [], q5.2) rfl trivial ?_
          obtain ⟨q6, hc, h⟩ := zk_bind h
          refine hr.2.2.1 _ _ _ _ _ (d + 2) rfl (by omega) (c_g_R_backwards (l := l) (E := E) (d := d) hc) (fun v S hq => ?_)
          obtain ⟨rfl, rfl⟩ := hq
          clear hc
          refine hr.1 2 True _ _ (144, [some (.ref 0), some (.int x1), some (.int q2.1), some (.int ((q2.1 / 2) - 1)), some (.long (zo_lshl q3 ((q2.1 / 2) - 1))), none, some (.long q5.1), none, some (.int e8)], [.long ((((zo_lshl q3 ((q2.1 / 2) - 1)) + 1) + (16 * q5.1)) + ((q6.1).toInt64))], [], q6.2) rfl trivial ?_
          exact hr.2.2.2 _ _ _ rfl trivial ⟨(congrArg (fun x => some (Value.long x.1)) (Option.some.inj h)), (congrArg (fun x => (([], x.2) : zx_S)) (Option.some.inj h))⟩
        · replace h := zk_f h c64
          refine hr.1 12 True _ _ (85, [some (.ref 0), some (.int x1), some (.int q2.1), some (.int ((q2.1 / 2) - 1)), some (.long (zo_lshl q3 ((q2.1 / 2) - 1))), none, none, none, none], [.int ((q2.1 / 2) - 1), .int ((7864 + (32 * q2.1)) - 128), .ref 0, .long ((zo_lshl q3 ((q2.1 / 2) - 1)) + 1)], [], q2.2) rfl trivial ?_
          obtain ⟨q7, hc, h⟩ := zk_bind h
          refine hr.2.2.1 _ _ _ _ _ (d + 2) rfl (by omega) (c_g_R_backwards (l := l) (E := E) (d := d) hc) (fun v S hq => ?_)
          obtain ⟨rfl, rfl⟩ := hq
          clear hc
          refine hr.1 2 True _ _ (90, [some (.ref 0), some (.int x1), some (.int q2.1), some (.int ((q2.1 / 2) - 1)), some (.long (zo_lshl q3 ((q2.1 / 2) - 1))), none, none, none, none], [.long (((zo_lshl q3 ((q2.1 / 2) - 1)) + 1) + ((q7.1).toInt64))], [], q7.2) rfl trivial ?_
          exact hr.2.2.2 _ _ _ rfl trivial ⟨(congrArg (fun x => some (Value.long x.1)) (Option.some.inj h)), (congrArg (fun x => (([], x.2) : zx_S)) (Option.some.inj h))⟩
      clear h
      have h := hj
      clear hj
      refine hr.2.1 _ (¬ zo_rem q2.1 2 = 0) _ _ rfl (fun c45 => ?_) (fun c45 => ?_)
      · replace h := zk_t h c45
        refine hr.1 1 True _ _ (57, [some (.ref 0), some (.int x1), some (.int q2.1), some (.int ((q2.1 / 2) - 1)), none, none, none, none, none], [.long 3], [], q2.2) rfl trivial ?_
        replace h := Option.some.inj h
        subst h
        exact J57 trivial
      · replace h := zk_f h c45
        refine hr.1 2 True _ _ (57, [some (.ref 0), some (.int x1), some (.int q2.1), some (.int ((q2.1 / 2) - 1)), none, none, none, none, none], [.long 2], [], q2.2) rfl trivial ?_
        replace h := Option.some.inj h
        subst h
        exact J57 trivial
    · replace h := zk_f h c28
      refine hr.1 4 True _ _ (35, [some (.ref 0), some (.int x1), some (.int q2.1), none, none, none, none, none, none], [.long (((q2.1).toInt64) + 1)], [], q2.2) rfl trivial ?_
      exact hr.2.2.2 _ _ _ rfl trivial ⟨(congrArg (fun x => some (Value.long x.1)) (Option.some.inj h)), (congrArg (fun x => (([], x.2) : zx_S)) (Option.some.inj h))⟩
  clear h
  have h := hj
  clear hj
  refine hr.2.1 _ (5 ≤ x1) _ _ rfl (fun c8 => ?_) (fun c8 => ?_)
  · replace h := zk_t h c8
    refine hr.1 1 True _ _ (18, [some (.ref 0), some (.int x1), none, none, none, none, none, none, none], [.int 3, .int 64, .int 7608, .ref 0], [], D) rfl trivial ?_
    replace h := Option.some.inj h
    subst h
    exact J18 trivial
  · replace h := zk_f h c8
    refine hr.1 4 True _ _ (18, [some (.ref 0), some (.int x1), none, none, none, none, none, none, none], [.int (x1 - 2), .int 64, .int 7608, .ref 0], [], D) rfl trivial ?_
    replace h := Option.some.inj h
    subst h
    exact J18 trivial
set_option maxRecDepth 100000 in
set_option maxHeartbeats 4000000 in
theorem c_g_R_literal {l : Launch} {E : zx_E} {d : Nat} {D : zx_D} {q : zx_D} (h : g_R_literal D = some q) : zx_MR l E 157 (d + 2) [.ref 0] ([], D) (fun v S => v = none ∧ S = ([], q)) := by
  refine zx_ofR (K := ck_R_literal) rfl (by decide +kernel) rfl ok_R_literal (Nat.le_of_ble_eq_true rfl) (fun Zp hr => ?_)
  show Zp (0, [some (.ref 0), none, none, none, none, none, none, none, none], [], [], D)
  have loop84 : ∀ (x2 : Int32) (x4 : Int32) (k : Nat) (x3 : Int32) (x5 : Int32) (x6 : Int32) (D : zx_D) (o7 : Option Value) (o8 : Option Value) (x1 : Int32) (q : Int32 × zx_D), g_R_literal_84 x2 x4 k x3 x5 x6 D = some q → (∀ (e3 : Int32) (e6 : Int32) (o7 : Option Value) (o8 : Option Value), Zp (162, [some (.ref 0), some (.int x1), some (.int x2), some (.int e3), some (.int x4), some (.int q.1), some (.int e6), o7, o8], [], [], q.2)) → Zp (84, [some (.ref 0), some (.int x1), some (.int x2), some (.int x3), some (.int x4), some (.int x5), some (.int x6), o7, o8], [], [], D) := by
    intro x2 x4 k
    induction k with
    | zero => intro x3 x5 x6 D o7 o8 x1 q h hx; exact (zk_no h).elim
    | succ k ih =>
      intro x3 x5 x6 D o7 o8 x1 q h hx
      rw [g_R_literal_84] at h
      refine hr.1 1 True _ _ (86, [some (.ref 0), some (.int x1), some (.int x2), some (.int x3), some (.int x4), some (.int x5), some (.int x6), o7, o8], [.int x6], [], D) rfl trivial ?_
      refine hr.2.1 _ (x6 < 0) _ _ rfl (fun c86 => ?_) (fun c86 => ?_)
      · replace h := zk_t h c86
        replace h := Option.some.inj h
        subst h
        exact hx x3 x6 o7 o8
      · replace h := zk_f h c86
        refine hr.1 8 True _ _ (100, [some (.ref 0), some (.int x1), some (.int x2), some (.int x3), some (.int x4), some (.int x5), some (.int x6), some (.int ((zo_shr x4 x6) &&& 1)), o8], [.int x3, .ref 0], [], D) rfl trivial ?_
        obtain ⟨q6, hj, h⟩ := zk_bind h
        have J125 : ∀ (_ : True), Zp (125, [some (.ref 0), some (.int x1), some (.int x2), some (.int x3), some (.int x4), some (.int x5), some (.int x6), some (.int ((zo_shr x4 x6) &&& 1)), o8], [.int q6, .ref 0], [], D) := by
          intro _
          obtain ⟨q7, hc, h⟩ := zk_bind h
          refine hr.2.2.1 _ _ _ _ _ (d + 1) rfl (by omega) (c_g_R_bit (l := l) (E := E) (d := d) hc) (fun v S hq => ?_)
          obtain ⟨rfl, rfl⟩ := hq
          clear hc
          refine hr.1 8 True _ _ (140, [some (.ref 0), some (.int x1), some (.int x2), some (.int x3), some (.int x4), some (.int ((2 * x5) + q7.1)), some (.int x6), some (.int ((zo_shr x4 x6) &&& 1)), some (.int q7.1)], [.int x3], [], q7.2) rfl trivial ?_
          refine hr.2.1 _ (x3 = 0) _ _ rfl (fun c140 => ?_) (fun c140 => ?_)
          · replace h := zk_t h c140
            refine hr.1 4 True _ _ (84, [some (.ref 0), some (.int x1), some (.int x2), some (.int 0), some (.int x4), some (.int ((2 * x5) + q7.1)), some (.int (x6 + (-1))), some (.int ((zo_shr x4 x6) &&& 1)), some (.int q7.1)], [], [], q7.2) rfl trivial ?_
            exact ih 0 ((2 * x5) + q7.1) (x6 + (-1)) q7.2 _ _ _ _ h hx
          · replace h := zk_f h c140
            refine hr.1 2 True _ _ (147, [some (.ref 0), some (.int x1), some (.int x2), some (.int x3), some (.int x4), some (.int ((2 * x5) + q7.1)), some (.int x6), some (.int ((zo_shr x4 x6) &&& 1)), some (.int q7.1)], [.int ((zo_shr x4 x6) &&& 1), .int q7.1], [], q7.2) rfl trivial ?_
            refine hr.2.1 _ (¬ q7.1 = (zo_shr x4 x6) &&& 1) _ _ rfl (fun c147 => ?_) (fun c147 => ?_)
            · replace h := zk_t h c147
              refine hr.1 4 True _ _ (84, [some (.ref 0), some (.int x1), some (.int x2), some (.int 0), some (.int x4), some (.int ((2 * x5) + q7.1)), some (.int (x6 + (-1))), some (.int ((zo_shr x4 x6) &&& 1)), some (.int q7.1)], [], [], q7.2) rfl trivial ?_
              exact ih 0 ((2 * x5) + q7.1) (x6 + (-1)) q7.2 _ _ _ _ h hx
            · replace h := zk_f h c147
              refine hr.1 5 True _ _ (84, [some (.ref 0), some (.int x1), some (.int x2), some (.int 1), some (.int x4), some (.int ((2 * x5) + q7.1)), some (.int (x6 + (-1))), some (.int ((zo_shr x4 x6) &&& 1)), some (.int q7.1)], [], [], q7.2) rfl trivial ?_
              exact ih 1 ((2 * x5) + q7.1) (x6 + (-1)) q7.2 _ _ _ _ h hx
        clear h
        have h := hj
        clear hj
        refine hr.2.1 _ (x3 = 0) _ _ rfl (fun c100 => ?_) (fun c100 => ?_)
        · replace h := zk_t h c100
          refine hr.1 3 True _ _ (125, [some (.ref 0), some (.int x1), some (.int x2), some (.int x3), some (.int x4), some (.int x5), some (.int x6), some (.int ((zo_shr x4 x6) &&& 1)), o8], [.int (x2 + x5), .ref 0], [], D) rfl trivial ?_
          replace h := Option.some.inj h
          subst h
          exact J125 trivial
        · replace h := zk_f h c100
          refine hr.1 10 True _ _ (125, [some (.ref 0), some (.int x1), some (.int x2), some (.int x3), some (.int x4), some (.int x5), some (.int x6), some (.int ((zo_shr x4 x6) &&& 1)), o8], [.int (((x2 + 256) + (256 * ((zo_shr x4 x6) &&& 1))) + x5), .ref 0], [], D) rfl trivial ?_
          replace h := Option.some.inj h
          subst h
          exact J125 trivial
  rw [g_R_literal] at h
  refine hr.1 1 True _ _ (1, [some (.ref 0), none, none, none, none, none, none, none, none], [.ref 0], [], D) rfl trivial ?_
  obtain ⟨q1, hc, h⟩ := zk_bind h
  refine hr.2.2.1 _ _ _ _ _ (d + 1) rfl (by omega) (c_g_R_bytes (l := l) (E := E) (d := d + 1) hc) (fun v S hq => ?_)
  obtain ⟨rfl, rfl⟩ := hq
  clear hc
  refine hr.1 4 True _ _ (8, [some (.ref 0), some (.int q1), none, none, none, none, none, none, none], [.int q1, .int q1, .ref 0], [], D) rfl trivial ?_
  obtain ⟨q2, hj, h⟩ := zk_bind h
  have J26 : ∀ (_ : True), Zp (26, [some (.ref 0), some (.int q1), none, none, none, none, none, none, none], [.int q2, .int q1, .ref 0], [], D) := by
    intro _
    obtain ⟨q3, hc, h⟩ := zk_bind h
    refine hr.2.2.1 _ _ _ _ _ (d + 1) rfl (by omega) (c_g_R_context (l := l) (E := E) (d := d + 1) hc) (fun v S hq => ?_)
    obtain ⟨rfl, rfl⟩ := hq
    clear hc
    refine hr.1 4 True _ _ (36, [some (.ref 0), some (.int q1), some (.int q3), none, none, none, none, none, none], [.int 6, .int (zg_i D 0 12)], [], D) rfl trivial ?_
    obtain ⟨q4, hj, h⟩ := zk_bind h
    have J51 : ∀ (_ : True), Zp (51, [some (.ref 0), some (.int q1), some (.int q3), none, none, none, none, none, none], [.int q4], [], D) := by
      intro _
      refine hr.1 2 True _ _ (53, [some (.ref 0), some (.int q1), some (.int q3), some (.int q4), none, none, none, none, none], [.int q4], [], D) rfl trivial ?_
      obtain ⟨q5, hj, h⟩ := zk_bind h
      have J75 : ∀ (_ : True), Zp (75, [some (.ref 0), some (.int q1), some (.int q3), some (.int q4), none, none, none, none, none], [.int q5], [], D) := by
        intro _
        refine hr.1 5 True _ _ (84, [some (.ref 0), some (.int q1), some (.int q3), some (.int q4), some (.int q5), some (.int 1), some (.int 7), none, none], [], [], D) rfl trivial ?_
        obtain ⟨q8, hc, h⟩ := zk_bind h
        refine loop84 q3 q5 10000 q4 1 7 D none none q1 q8 hc (fun e3 e6 o7 o8 => ?_)
        clear hc
        refine hr.1 2 True _ _ (166, [some (.ref 0), some (.int q1), some (.int q3), some (.int e3), some (.int q5), some (.int q8.1), some (.int e6), o7, o8], [.int (zg_i q8.2 0 22)], [], q8.2) rfl trivial ?_
        refine hr.2.1 _ (¬ zg_i q8.2 0 22 = 0) _ _ rfl (fun c166 => ?_) (fun c166 => ?_)
        · replace h := zk_t h c166
          exact hr.2.2.2 _ _ _ rfl trivial ⟨rfl, (congrArg (fun x => (([], x) : zx_S)) (Option.some.inj h))⟩
        · replace h := zk_f h c166
          refine hr.1 4 True _ _ (176, [some (.ref 0), some (.int q1), some (.int q3), some (.int e3), some (.int q5), some (.int q8.1), some (.int e6), o7, o8], [.int (q8.1 &&& 255), .ref 0], [], q8.2) rfl trivial ?_
          obtain ⟨q9, hc, h⟩ := zk_bind h
          refine hr.2.2.1 _ _ _ _ _ (d + 1) rfl (by omega) (c_g_R_give (l := l) (E := E) (d := d + 1) hc) (fun v S hq => ?_)
          obtain ⟨rfl, rfl⟩ := hq
          clear hc
          refine hr.1 3 True _ _ (184, [some (.ref 0), some (.int q1), some (.int q3), some (.int e3), some (.int q5), some (.int q8.1), some (.int e6), o7, o8], [.int (zg_i q9 0 12), .ref 0], [], q9) rfl trivial ?_
          obtain ⟨q10, hc, h⟩ := zk_bind h
          refine hr.2.2.1 _ _ _ _ _ (d + 1) rfl (by omega) (c_g_R_after (l := l) (E := E) (d := d + 1) hc) (fun v S hq => ?_)
          obtain ⟨rfl, rfl⟩ := hq
          clear hc
          refine hr.1 9 True _ _ (200, [some (.ref 0), some (.int q1), some (.int q3), some (.int e3), some (.int q5), some (.int q8.1), some (.int e6), o7, o8], [], [], zp_i (zp_i q9 0 12 q10) 9 (zn 1) ((zg_i q9 9 (zn 1)) + 1)) rfl ⟨⟨trivial, (zk_vp rfl)⟩, (zk_vp rfl)⟩ ?_
          exact hr.2.2.2 _ _ _ rfl trivial ⟨rfl, (congrArg (fun x => (([], x) : zx_S)) (Option.some.inj h))⟩
      clear h
      have h := hj
      clear hj
      refine hr.2.1 _ (q4 = 0) _ _ rfl (fun c53 => ?_) (fun c53 => ?_)
      · replace h := zk_t h c53
        refine hr.1 1 True _ _ (75, [some (.ref 0), some (.int q1), some (.int q3), some (.int q4), none, none, none, none, none], [.int 0], [], D) rfl trivial ?_
        replace h := Option.some.inj h
        subst h
        exact J75 trivial
      · replace h := zk_f h c53
        obtain ⟨w3, h⟩ := zk_ck h
        refine hr.1 10 True _ _ (75, [some (.ref 0), some (.int q1), some (.int q3), some (.int q4), none, none, none, none, none], [.int (zg_i D 3 (zn ((zg_i D 0 5) - (((zg_l D 0 13)).toInt32))))], [], D) rfl ⟨trivial, (zk_vp w3)⟩ ?_
        replace h := Option.some.inj h
        subst h
        exact J75 trivial
    clear h
    have h := hj
    clear hj
    refine hr.2.1 _ (zg_i D 0 12 ≤ 6) _ _ rfl (fun c36 => ?_) (fun c36 => ?_)
    · replace h := zk_t h c36
      refine hr.1 1 True _ _ (51, [some (.ref 0), some (.int q1), some (.int q3), none, none, none, none, none, none], [.int 0], [], D) rfl trivial ?_
      replace h := Option.some.inj h
      subst h
      exact J51 trivial
    · replace h := zk_f h c36
      refine hr.1 2 True _ _ (43, [some (.ref 0), some (.int q1), some (.int q3), none, none, none, none, none, none], [.int (zg_i D 0 22)], [], D) rfl trivial ?_
      refine hr.2.1 _ (¬ zg_i D 0 22 = 0) _ _ rfl (fun c43 => ?_) (fun c43 => ?_)
      · replace h := zk_t h c43
        refine hr.1 1 True _ _ (51, [some (.ref 0), some (.int q1), some (.int q3), none, none, none, none, none, none], [.int 0], [], D) rfl trivial ?_
        replace h := Option.some.inj h
        subst h
        exact J51 trivial
      · replace h := zk_f h c43
        refine hr.1 2 True _ _ (51, [some (.ref 0), some (.int q1), some (.int q3), none, none, none, none, none, none], [.int 1], [], D) rfl trivial ?_
        replace h := Option.some.inj h
        subst h
        exact J51 trivial
  clear h
  have h := hj
  clear hj
  refine hr.2.1 _ (¬ q1 = 0) _ _ rfl (fun c8 => ?_) (fun c8 => ?_)
  · replace h := zk_t h c8
    obtain ⟨w4, h⟩ := zk_ck h
    refine hr.1 7 True _ _ (26, [some (.ref 0), some (.int q1), none, none, none, none, none, none, none], [.int (zg_i D 3 (zn ((zg_i D 0 5) - 1))), .int q1, .ref 0], [], D) rfl ⟨trivial, (zk_vp w4)⟩ ?_
    replace h := Option.some.inj h
    subst h
    exact J26 trivial
  · replace h := zk_f h c8
    refine hr.1 2 True _ _ (26, [some (.ref 0), some (.int q1), none, none, none, none, none, none, none], [.int 0, .int q1, .ref 0], [], D) rfl trivial ?_
    replace h := Option.some.inj h
    subst h
    exact J26 trivial
set_option maxRecDepth 100000 in
set_option maxHeartbeats 4000000 in
theorem c_g_R_token {l : Launch} {E : zx_E} {d : Nat} {D : zx_D} {q : zx_D} (h : g_R_token D = some q) : zx_MR l E 149 (d + 5) [.ref 0] ([], D) (fun v S => v = none ∧ S = ([], q)) := by
  refine zx_ofR (K := ck_R_token) rfl (by decide +kernel) rfl ok_R_token (Nat.le_of_ble_eq_true rfl) (fun Zp hr => ?_)
  show Zp (0, [some (.ref 0), none, none], [], [], D)
  rw [g_R_token] at h
  refine hr.1 2 True _ _ (2, [some (.ref 0), none, none], [.ref 0, .ref 0], [], D) rfl trivial ?_
  obtain ⟨q1, hc, h⟩ := zk_bind h
  refine hr.2.2.1 _ _ _ _ _ (d + 4) rfl (by omega) (c_g_R_bytes (l := l) (E := E) (d := d + 4) hc) (fun v S hq => ?_)
  obtain ⟨rfl, rfl⟩ := hq
  clear hc
  obtain ⟨q2, hc, h⟩ := zk_bind h
  refine hr.2.2.1 _ _ _ _ _ (d + 4) rfl (by omega) (c_g_R_low4 (l := l) (E := E) (d := d + 4) hc) (fun v S hq => ?_)
  obtain ⟨rfl, rfl⟩ := hq
  clear hc
  refine hr.1 10 True _ _ (23, [some (.ref 0), some (.int q2), none], [.int ((6144 + (16 * (zg_i D 0 12))) + q2), .ref 0], [], D) rfl trivial ?_
  obtain ⟨q3, hc, h⟩ := zk_bind h
  refine hr.2.2.1 _ _ _ _ _ (d + 4) rfl (by omega) (c_g_R_bit (l := l) (E := E) (d := d + 3) hc) (fun v S hq => ?_)
  obtain ⟨rfl, rfl⟩ := hq
  clear hc
  refine hr.2.1 _ (¬ q3.1 = 0) _ _ rfl (fun c26 => ?_) (fun c26 => ?_)
  · replace h := zk_t h c26
    refine hr.1 5 True _ _ (43, [some (.ref 0), some (.int q2), none], [.int (6528 + (zg_i q3.2 0 12)), .ref 0], [], q3.2) rfl trivial ?_
    obtain ⟨q4, hc, h⟩ := zk_bind h
    refine hr.2.2.1 _ _ _ _ _ (d + 4) rfl (by omega) (c_g_R_bit (l := l) (E := E) (d := d + 3) hc) (fun v S hq => ?_)
    obtain ⟨rfl, rfl⟩ := hq
    clear hc
    refine hr.2.1 _ (¬ q4.1 = 0) _ _ rfl (fun c46 => ?_) (fun c46 => ?_)
    · replace h := zk_t h c46
      refine hr.1 5 True _ _ (127, [some (.ref 0), some (.int q2), none], [.int (6540 + (zg_i q4.2 0 12)), .ref 0], [], q4.2) rfl trivial ?_
      obtain ⟨q5, hc, h⟩ := zk_bind h
      refine hr.2.2.1 _ _ _ _ _ (d + 4) rfl (by omega) (c_g_R_bit (l := l) (E := E) (d := d + 3) hc) (fun v S hq => ?_)
      obtain ⟨rfl, rfl⟩ := hq
      clear hc
      refine hr.2.1 _ (¬ q5.1 = 0) _ _ rfl (fun c130 => ?_) (fun c130 => ?_)
      · replace h := zk_t h c130
        refine hr.1 5 True _ _ (196, [some (.ref 0), some (.int q2), none], [.int (6552 + (zg_i q5.2 0 12)), .ref 0], [], q5.2) rfl trivial ?_
        obtain ⟨q6, hc, h⟩ := zk_bind h
        refine hr.2.2.1 _ _ _ _ _ (d + 4) rfl (by omega) (c_g_R_bit (l := l) (E := E) (d := d + 3) hc) (fun v S hq => ?_)
        obtain ⟨rfl, rfl⟩ := hq
        clear hc
        refine hr.2.1 _ (¬ q6.1 = 0) _ _ rfl (fun c199 => ?_) (fun c199 => ?_)
        · replace h := zk_t h c199
          refine hr.1 6 True _ _ (219, [some (.ref 0), some (.int q2), none], [.int (6564 + (zg_i q6.2 0 12)), .ref 0, .ref 0], [], q6.2) rfl trivial ?_
          obtain ⟨q7, hc, h⟩ := zk_bind h
          refine hr.2.2.1 _ _ _ _ _ (d + 4) rfl (by omega) (c_g_R_bit (l := l) (E := E) (d := d + 3) hc) (fun v S hq => ?_)
          obtain ⟨rfl, rfl⟩ := hq
          clear hc
          refine hr.2.1 _ (¬ q7.1 = 0) _ _ rfl (fun c222 => ?_) (fun c222 => ?_)
          · replace h := zk_t h c222
            refine hr.1 2 True _ _ (231, [some (.ref 0), some (.int q2), none], [.int q2, .int 3, .ref 0], [], q7.2) rfl trivial ?_
            obtain ⟨q8, hc, h⟩ := zk_bind h
            refine hr.2.2.1 _ _ _ _ _ (d + 4) rfl (by omega) (c_g_R_repeated (l := l) (E := E) (d := d) hc) (fun v S hq => ?_)
            obtain ⟨rfl, rfl⟩ := hq
            clear hc
            exact hr.2.2.2 _ _ _ rfl trivial ⟨rfl, (congrArg (fun x => (([], x) : zx_S)) (Option.some.inj h))⟩
          · replace h := zk_f h c222
            refine hr.1 3 True _ _ (231, [some (.ref 0), some (.int q2), none], [.int q2, .int 2, .ref 0], [], q7.2) rfl trivial ?_
            obtain ⟨q9, hc, h⟩ := zk_bind h
            refine hr.2.2.1 _ _ _ _ _ (d + 4) rfl (by omega) (c_g_R_repeated (l := l) (E := E) (d := d) hc) (fun v S hq => ?_)
            obtain ⟨rfl, rfl⟩ := hq
            clear hc
            exact hr.2.2.2 _ _ _ rfl trivial ⟨rfl, (congrArg (fun x => (([], x) : zx_S)) (Option.some.inj h))⟩
        · replace h := zk_f h c199
          refine hr.1 3 True _ _ (205, [some (.ref 0), some (.int q2), none], [.int q2, .int 1, .ref 0], [], q6.2) rfl trivial ?_
          obtain ⟨q10, hc, h⟩ := zk_bind h
          refine hr.2.2.1 _ _ _ _ _ (d + 4) rfl (by omega) (c_g_R_repeated (l := l) (E := E) (d := d) hc) (fun v S hq => ?_)
          obtain ⟨rfl, rfl⟩ := hq
          clear hc
          exact hr.2.2.2 _ _ _ rfl trivial ⟨rfl, (congrArg (fun x => (([], x) : zx_S)) (Option.some.inj h))⟩
      · replace h := zk_f h c130
        refine hr.1 9 True _ _ (147, [some (.ref 0), some (.int q2), none], [.int ((6336 + (16 * (zg_i q5.2 0 12))) + q2), .ref 0], [], q5.2) rfl trivial ?_
        obtain ⟨q11, hc, h⟩ := zk_bind h
        refine hr.2.2.1 _ _ _ _ _ (d + 4) rfl (by omega) (c_g_R_bit (l := l) (E := E) (d := d + 3) hc) (fun v S hq => ?_)
        obtain ⟨rfl, rfl⟩ := hq
        clear hc
        refine hr.2.1 _ (¬ q11.1 = 0) _ _ rfl (fun c150 => ?_) (fun c150 => ?_)
        · replace h := zk_t h c150
          refine hr.1 3 True _ _ (183, [some (.ref 0), some (.int q2), none], [.int q2, .int 0, .ref 0], [], q11.2) rfl trivial ?_
          obtain ⟨q12, hc, h⟩ := zk_bind h
          refine hr.2.2.1 _ _ _ _ _ (d + 4) rfl (by omega) (c_g_R_repeated (l := l) (E := E) (d := d) hc) (fun v S hq => ?_)
          obtain ⟨rfl, rfl⟩ := hq
          clear hc
          exact hr.2.2.2 _ _ _ rfl trivial ⟨rfl, (congrArg (fun x => (([], x) : zx_S)) (Option.some.inj h))⟩
        · replace h := zk_f h c150
          refine hr.1 4 True _ _ (160, [some (.ref 0), some (.int q2), none], [.int 7, .int (zg_i q11.2 0 12), .ref 0], [], q11.2) rfl trivial ?_
          refine hr.2.1 _ (7 ≤ zg_i q11.2 0 12) _ _ rfl (fun c160 => ?_) (fun c160 => ?_)
          · replace h := zk_t h c160
            refine hr.1 5 True _ _ (176, [some (.ref 0), some (.int q2), none], [.int 3, .int 1, .ref 0], [], zp_i q11.2 0 12 11) rfl trivial ?_
            obtain ⟨q13, hc, h⟩ := zk_bind h
            refine hr.2.2.1 _ _ _ _ _ (d + 4) rfl (by omega) (c_g_R_back (l := l) (E := E) (d := d + 3) hc) (fun v S hq => ?_)
            obtain ⟨rfl, rfl⟩ := hq
            clear hc
            exact hr.2.2.2 _ _ _ rfl trivial ⟨rfl, (congrArg (fun x => (([], x) : zx_S)) (Option.some.inj h))⟩
          · replace h := zk_f h c160
            refine hr.1 6 True _ _ (176, [some (.ref 0), some (.int q2), none], [.int 3, .int 1, .ref 0], [], zp_i q11.2 0 12 9) rfl trivial ?_
            obtain ⟨q14, hc, h⟩ := zk_bind h
            refine hr.2.2.1 _ _ _ _ _ (d + 4) rfl (by omega) (c_g_R_back (l := l) (E := E) (d := d + 3) hc) (fun v S hq => ?_)
            obtain ⟨rfl, rfl⟩ := hq
            clear hc
            exact hr.2.2.2 _ _ _ rfl trivial ⟨rfl, (congrArg (fun x => (([], x) : zx_S)) (Option.some.inj h))⟩
    · replace h := zk_f h c46
      refine hr.1 15 True _ _ (78, [some (.ref 0), some (.int q2), none], [.int q2, .int 6576, .ref 0], [], zp_l (zp_l (zp_l q4.2 0 16 (zg_l q4.2 0 15)) 0 15 (zg_l q4.2 0 14)) 0 14 (zg_l q4.2 0 13)) rfl trivial ?_
      obtain ⟨q15, hc, h⟩ := zk_bind h
      refine hr.2.2.1 _ _ _ _ _ (d + 4) rfl (by omega) (c_g_R_lengthTaken (l := l) (E := E) (d := d + 1) hc) (fun v S hq => ?_)
      obtain ⟨rfl, rfl⟩ := hq
      clear hc
      refine hr.1 4 True _ _ (85, [some (.ref 0), some (.int q2), some (.int q15.1)], [.int q15.1, .ref 0, .ref 0], [], q15.2) rfl trivial ?_
      obtain ⟨q16, hc, h⟩ := zk_bind h
      refine hr.2.2.1 _ _ _ _ _ (d + 4) rfl (by omega) (c_g_R_distance (l := l) (E := E) (d := d + 1) hc) (fun v S hq => ?_)
      obtain ⟨rfl, rfl⟩ := hq
      clear hc
      refine hr.1 5 True _ _ (98, [some (.ref 0), some (.int q2), some (.int q15.1)], [.int 7, .int (zg_i q16.2 0 12), .ref 0], [], zp_l q16.2 0 13 q16.1) rfl trivial ?_
      refine hr.2.1 _ (7 ≤ zg_i q16.2 0 12) _ _ rfl (fun c98 => ?_) (fun c98 => ?_)
      · replace h := zk_t h c98
        refine hr.1 5 True _ _ (114, [some (.ref 0), some (.int q2), some (.int q15.1)], [.int 2, .int q15.1, .ref 0], [], zp_i (zp_l q16.2 0 13 q16.1) 0 12 10) rfl trivial ?_
        obtain ⟨q17, hc, h⟩ := zk_bind h
        refine hr.2.2.1 _ _ _ _ _ (d + 4) rfl (by omega) (c_g_R_back (l := l) (E := E) (d := d + 3) hc) (fun v S hq => ?_)
        obtain ⟨rfl, rfl⟩ := hq
        clear hc
        exact hr.2.2.2 _ _ _ rfl trivial ⟨rfl, (congrArg (fun x => (([], x) : zx_S)) (Option.some.inj h))⟩
      · replace h := zk_f h c98
        refine hr.1 6 True _ _ (114, [some (.ref 0), some (.int q2), some (.int q15.1)], [.int 2, .int q15.1, .ref 0], [], zp_i (zp_l q16.2 0 13 q16.1) 0 12 7) rfl trivial ?_
        obtain ⟨q18, hc, h⟩ := zk_bind h
        refine hr.2.2.1 _ _ _ _ _ (d + 4) rfl (by omega) (c_g_R_back (l := l) (E := E) (d := d + 3) hc) (fun v S hq => ?_)
        obtain ⟨rfl, rfl⟩ := hq
        clear hc
        exact hr.2.2.2 _ _ _ rfl trivial ⟨rfl, (congrArg (fun x => (([], x) : zx_S)) (Option.some.inj h))⟩
  · replace h := zk_f h c26
    refine hr.1 1 True _ _ (30, [some (.ref 0), some (.int q2), none], [.ref 0], [], q3.2) rfl trivial ?_
    obtain ⟨q19, hc, h⟩ := zk_bind h
    refine hr.2.2.1 _ _ _ _ _ (d + 4) rfl (by omega) (c_g_R_literal (l := l) (E := E) (d := d + 2) hc) (fun v S hq => ?_)
    obtain ⟨rfl, rfl⟩ := hq
    clear hc
    exact hr.2.2.2 _ _ _ rfl trivial ⟨rfl, (congrArg (fun x => (([], x) : zx_S)) (Option.some.inj h))⟩
set_option maxRecDepth 100000 in
set_option maxHeartbeats 4000000 in
theorem c_g_R_coded {l : Launch} {E : zx_E} {d : Nat} {x1 : Int32} {x2 : Int32} {x3 : Int32} {D : zx_D} {q : zx_D} (h : g_R_coded x1 x2 x3 D = some q) : zx_MR l E 129 (d + 6) [.ref 0, .int x1, .int x2, .int x3] ([], D) (fun v S => v = none ∧ S = ([], q)) := by
  refine zx_ofR (K := ck_R_coded) rfl (by decide +kernel) rfl ok_R_coded (Nat.le_of_ble_eq_true rfl) (fun Zp hr => ?_)
  show Zp (0, [some (.ref 0), some (.int x1), some (.int x2), some (.int x3)], [], [], D)
  have loop206 : ∀ (k : Nat) (D : zx_D) (x1 : Int32) (x2 : Int32) (x3 : Int32) (q : zx_D), g_R_coded_206 k D = some q → (True → Zp (227, [some (.ref 0), some (.int x1), some (.int x2), some (.int x3)], [], [], q)) → Zp (206, [some (.ref 0), some (.int x1), some (.int x2), some (.int x3)], [], [], D) := by
    intro k
    induction k with
    | zero => intro D x1 x2 x3 q h hx; exact (zk_no h).elim
    | succ k ih =>
      intro D x1 x2 x3 q h hx
      rw [g_R_coded_206] at h
      refine hr.1 2 True _ _ (210, [some (.ref 0), some (.int x1), some (.int x2), some (.int x3)], [.int (zg_i D 0 21)], [], D) rfl trivial ?_
      refine hr.2.1 _ (zg_i D 0 21 ≤ 0) _ _ rfl (fun c210 => ?_) (fun c210 => ?_)
      · replace h := zk_t h c210
        replace h := Option.some.inj h
        subst h
        exact hx trivial
      · replace h := zk_f h c210
        refine hr.1 2 True _ _ (217, [some (.ref 0), some (.int x1), some (.int x2), some (.int x3)], [.int (zg_i D 0 22)], [], D) rfl trivial ?_
        refine hr.2.1 _ (¬ zg_i D 0 22 = 0) _ _ rfl (fun c217 => ?_) (fun c217 => ?_)
        · replace h := zk_t h c217
          replace h := Option.some.inj h
          subst h
          exact hx trivial
        · replace h := zk_f h c217
          refine hr.1 1 True _ _ (221, [some (.ref 0), some (.int x1), some (.int x2), some (.int x3)], [.ref 0], [], D) rfl trivial ?_
          obtain ⟨q6, hc, h⟩ := zk_bind h
          refine hr.2.2.1 _ _ _ _ _ (d + 5) rfl (by omega) (c_g_R_token (l := l) (E := E) (d := d) hc) (fun v S hq => ?_)
          obtain ⟨rfl, rfl⟩ := hq
          clear hc
          refine hr.1 1 True _ _ (206, [some (.ref 0), some (.int x1), some (.int x2), some (.int x3)], [], [], q6) rfl trivial ?_
          exact ih  q6 _ _ _ _ h hx
  rw [g_R_coded] at h
  refine hr.1 5 True _ _ (9, [some (.ref 0), some (.int x1), some (.int x2), some (.int x3)], [.int 400, .int ((zg_i D 0 5) + x1)], [], D) rfl trivial ?_
  refine hr.2.1 _ ((zg_i D 0 5) + x1 ≤ 400) _ _ rfl (fun c9 => ?_) (fun c9 => ?_)
  · replace h := zk_t h c9
    refine hr.1 2 True _ _ (27, [some (.ref 0), some (.int x1), some (.int x2), some (.int x3)], [.int 224, .int x3], [], D) rfl trivial ?_
    obtain ⟨q1, hj, h⟩ := zk_bind h
    have J43 : ∀ (_ : True), Zp (43, [some (.ref 0), some (.int x1), some (.int x2), some (.int x3)], [], [], q1) := by
      intro _
      refine hr.1 3 True _ _ (48, [some (.ref 0), some (.int x1), some (.int x2), some (.int x3)], [.int (zg_i q1 0 36), .ref 0], [], q1) rfl trivial ?_
      obtain ⟨q2, hj, h⟩ := zk_bind h
      have J63 : ∀ (_ : True), Zp (63, [some (.ref 0), some (.int x1), some (.int x2), some (.int x3)], [.int q2, .ref 0], [], q1) := by
        intro _
        obtain ⟨w7, h⟩ := zk_ck h
        refine hr.1 3 True _ _ (70, [some (.ref 0), some (.int x1), some (.int x2), some (.int x3)], [.int 160, .int x3], [], zp_i q1 0 36 q2) rfl ⟨trivial, w7⟩ ?_
        obtain ⟨q4, hj, h⟩ := zk_bind h
        have J77 : ∀ (_ : True), Zp (77, [some (.ref 0), some (.int x1), some (.int x2), some (.int x3)], [], [], q4) := by
          intro _
          refine hr.1 2 True _ _ (79, [some (.ref 0), some (.int x1), some (.int x2), some (.int x3)], [.int 5, .int x2], [], q4) rfl trivial ?_
          refine hr.2.1 _ (x2 < 5) _ _ rfl (fun c79 => ?_) (fun c79 => ?_)
          · replace h := zk_t h c79
            refine hr.1 4 True _ _ (101, [some (.ref 0), some (.int x1), some (.int x2), some (.int x3)], [.int (zg_i q4 0 28), .int (-6), .ref 0], [], q4) rfl trivial ?_
            obtain ⟨q5, hc, h⟩ := zk_bind h
            refine hr.2.2.1 _ _ _ _ _ (d + 5) rfl (by omega) (c_g_R_fail (l := l) (E := E) (d := d + 5) hc) (fun v S hq => ?_)
            obtain ⟨rfl, rfl⟩ := hq
            clear hc
            exact hr.2.2.2 _ _ _ rfl trivial ⟨rfl, (congrArg (fun x => (([], x) : zx_S)) (Option.some.inj h))⟩
          · replace h := zk_f h c79
            obtain ⟨w8, h⟩ := zk_ck h
            refine hr.1 5 True _ _ (91, [some (.ref 0), some (.int x1), some (.int x2), some (.int x3)], [.int (zg_i q4 2 (zn (zg_i q4 0 28)))], [], q4) rfl ⟨trivial, (zk_vp w8)⟩ ?_
            refine hr.2.1 _ (zg_i q4 2 (zn (zg_i q4 0 28)) = 0) _ _ rfl (fun c91 => ?_) (fun c91 => ?_)
            · replace h := zk_t h c91
              obtain ⟨w9, h⟩ := zk_ck h
              obtain ⟨w10, h⟩ := zk_ck h
              obtain ⟨w11, h⟩ := zk_ck h
              obtain ⟨w12, h⟩ := zk_ck h
              refine hr.1 64 True _ _ (206, [some (.ref 0), some (.int x1), some (.int x2), some (.int x3)], [], [], zp_i (zp_i (zp_i (zp_i (zp_l (zp_l q4 0 17 4294967295) 0 18 ((((zo_lshl (((zg_i q4 2 (zn ((zg_i q4 0 28) + 1)))).toInt64) 24) ||| (((zo_shl (zg_i q4 2 (zn ((zg_i q4 0 28) + 2))) 16)).toInt64)) ||| (((zo_shl (zg_i q4 2 (zn ((zg_i q4 0 28) + 3))) 8)).toInt64)) ||| (((zg_i q4 2 (zn ((zg_i q4 0 28) + 4)))).toInt64))) 0 19 ((zg_i q4 0 28) + 5)) 0 20 ((zg_i q4 0 28) + x2)) 0 21 x1) 0 22 0) rfl ⟨⟨⟨⟨⟨trivial, (zk_vp w9)⟩, (zk_vp w10)⟩, (zk_vp w11)⟩, (zk_vp w12)⟩, (Or.inl rfl)⟩ ?_
              obtain ⟨q7, hc, h⟩ := zk_bind h
              refine loop206 10000 (zp_i (zp_i (zp_i (zp_i (zp_l (zp_l q4 0 17 4294967295) 0 18 ((((zo_lshl (((zg_i q4 2 (zn ((zg_i q4 0 28) + 1)))).toInt64) 24) ||| (((zo_shl (zg_i q4 2 (zn ((zg_i q4 0 28) + 2))) 16)).toInt64)) ||| (((zo_shl (zg_i q4 2 (zn ((zg_i q4 0 28) + 3))) 8)).toInt64)) ||| (((zg_i q4 2 (zn ((zg_i q4 0 28) + 4)))).toInt64))) 0 19 ((zg_i q4 0 28) + 5)) 0 20 ((zg_i q4 0 28) + x2)) 0 21 x1) 0 22 0) x1 x2 x3 q7 hc (fun _ => ?_)
              clear hc
              refine hr.1 2 True _ _ (231, [some (.ref 0), some (.int x1), some (.int x2), some (.int x3)], [.int (zg_i q7 0 22)], [], q7) rfl trivial ?_
              obtain ⟨q9, hj, h⟩ := zk_bind h
              have J238 : ∀ (_ : True), Zp (238, [some (.ref 0), some (.int x1), some (.int x2), some (.int x3)], [], [], q9) := by
                intro _
                refine hr.1 2 True _ _ (242, [some (.ref 0), some (.int x1), some (.int x2), some (.int x3)], [.int (zg_i q9 0 22)], [], q9) rfl trivial ?_
                refine hr.2.1 _ (¬ zg_i q9 0 22 = 0) _ _ rfl (fun c242 => ?_) (fun c242 => ?_)
                · replace h := zk_t h c242
                  refine hr.1 4 True _ _ (272, [some (.ref 0), some (.int x1), some (.int x2), some (.int x3)], [.int (zg_i q9 0 28), .int (-6), .ref 0], [], q9) rfl trivial ?_
                  obtain ⟨q10, hc, h⟩ := zk_bind h
                  refine hr.2.2.1 _ _ _ _ _ (d + 5) rfl (by omega) (c_g_R_fail (l := l) (E := E) (d := d + 5) hc) (fun v S hq => ?_)
                  obtain ⟨rfl, rfl⟩ := hq
                  clear hc
                  exact hr.2.2.2 _ _ _ rfl trivial ⟨rfl, (congrArg (fun x => (([], x) : zx_S)) (Option.some.inj h))⟩
                · replace h := zk_f h c242
                  refine hr.1 3 True _ _ (250, [some (.ref 0), some (.int x1), some (.int x2), some (.int x3)], [.long 0, .long (zg_l q9 0 18)], [], q9) rfl trivial ?_
                  refine hr.2.1 _ (¬ zg_l q9 0 18 = 0) _ _ rfl (fun c250 => ?_) (fun c250 => ?_)
                  · replace h := zk_t h c250
                    refine hr.1 4 True _ _ (272, [some (.ref 0), some (.int x1), some (.int x2), some (.int x3)], [.int (zg_i q9 0 28), .int (-6), .ref 0], [], q9) rfl trivial ?_
                    obtain ⟨q11, hc, h⟩ := zk_bind h
                    refine hr.2.2.1 _ _ _ _ _ (d + 5) rfl (by omega) (c_g_R_fail (l := l) (E := E) (d := d + 5) hc) (fun v S hq => ?_)
                    obtain ⟨rfl, rfl⟩ := hq
                    clear hc
                    exact hr.2.2.2 _ _ _ rfl trivial ⟨rfl, (congrArg (fun x => (([], x) : zx_S)) (Option.some.inj h))⟩
                  · replace h := zk_f h c250
                    refine hr.1 4 True _ _ (262, [some (.ref 0), some (.int x1), some (.int x2), some (.int x3)], [.int (zg_i q9 0 20), .int (zg_i q9 0 19)], [], q9) rfl trivial ?_
                    refine hr.2.1 _ (zg_i q9 0 19 = zg_i q9 0 20) _ _ rfl (fun c262 => ?_) (fun c262 => ?_)
                    · replace h := zk_t h c262
                      refine hr.1 12 True _ _ (295, [some (.ref 0), some (.int x1), some (.int x2), some (.int x3)], [], [], zp_i (zp_i q9 0 28 (zg_i q9 0 20)) 9 (zn 8) ((zg_i q9 9 (zn 8)) + 1)) rfl ⟨⟨trivial, (zk_vp rfl)⟩, (zk_vp rfl)⟩ ?_
                      exact hr.2.2.2 _ _ _ rfl trivial ⟨rfl, (congrArg (fun x => (([], x) : zx_S)) (Option.some.inj h))⟩
                    · replace h := zk_f h c262
                      refine hr.1 4 True _ _ (272, [some (.ref 0), some (.int x1), some (.int x2), some (.int x3)], [.int (zg_i q9 0 28), .int (-6), .ref 0], [], q9) rfl trivial ?_
                      obtain ⟨q12, hc, h⟩ := zk_bind h
                      refine hr.2.2.1 _ _ _ _ _ (d + 5) rfl (by omega) (c_g_R_fail (l := l) (E := E) (d := d + 5) hc) (fun v S hq => ?_)
                      obtain ⟨rfl, rfl⟩ := hq
                      clear hc
                      exact hr.2.2.2 _ _ _ rfl trivial ⟨rfl, (congrArg (fun x => (([], x) : zx_S)) (Option.some.inj h))⟩
              clear h
              have h := hj
              clear hj
              refine hr.2.1 _ (¬ zg_i q7 0 22 = 0) _ _ rfl (fun c231 => ?_) (fun c231 => ?_)
              · replace h := zk_t h c231
                replace h := Option.some.inj h
                subst h
                exact J238 trivial
              · replace h := zk_f h c231
                refine hr.1 1 True _ _ (235, [some (.ref 0), some (.int x1), some (.int x2), some (.int x3)], [.ref 0], [], q7) rfl trivial ?_
                obtain ⟨q8, hc, h⟩ := zk_bind h
                refine hr.2.2.1 _ _ _ _ _ (d + 5) rfl (by omega) (c_g_R_shift (l := l) (E := E) (d := d + 5) hc) (fun v S hq => ?_)
                obtain ⟨rfl, rfl⟩ := hq
                clear hc
                replace h := Option.some.inj h
                subst h
                exact J238 trivial
            · replace h := zk_f h c91
              refine hr.1 4 True _ _ (101, [some (.ref 0), some (.int x1), some (.int x2), some (.int x3)], [.int (zg_i q4 0 28), .int (-6), .ref 0], [], q4) rfl trivial ?_
              obtain ⟨q13, hc, h⟩ := zk_bind h
              refine hr.2.2.1 _ _ _ _ _ (d + 5) rfl (by omega) (c_g_R_fail (l := l) (E := E) (d := d + 5) hc) (fun v S hq => ?_)
              obtain ⟨rfl, rfl⟩ := hq
              clear hc
              exact hr.2.2.2 _ _ _ rfl trivial ⟨rfl, (congrArg (fun x => (([], x) : zx_S)) (Option.some.inj h))⟩
        clear h
        have h := hj
        clear hj
        refine hr.2.1 _ (x3 < 160) _ _ rfl (fun c70 => ?_) (fun c70 => ?_)
        · replace h := zk_t h c70
          replace h := Option.some.inj h
          subst h
          exact J77 trivial
        · replace h := zk_f h c70
          refine hr.1 1 True _ _ (74, [some (.ref 0), some (.int x1), some (.int x2), some (.int x3)], [.ref 0], [], zp_i q1 0 36 q2) rfl trivial ?_
          obtain ⟨q3, hc, h⟩ := zk_bind h
          refine hr.2.2.1 _ _ _ _ _ (d + 5) rfl (by omega) (c_g_R_anew (l := l) (E := E) (d := d + 5) hc) (fun v S hq => ?_)
          obtain ⟨rfl, rfl⟩ := hq
          clear hc
          replace h := Option.some.inj h
          subst h
          exact J77 trivial
      clear h
      have h := hj
      clear hj
      refine hr.2.1 _ (zg_i q1 0 36 = 0) _ _ rfl (fun c48 => ?_) (fun c48 => ?_)
      · replace h := zk_t h c48
        refine hr.1 1 True _ _ (63, [some (.ref 0), some (.int x1), some (.int x2), some (.int x3)], [.int 0, .ref 0], [], q1) rfl trivial ?_
        replace h := Option.some.inj h
        subst h
        exact J63 trivial
      · replace h := zk_f h c48
        refine hr.1 2 True _ _ (55, [some (.ref 0), some (.int x1), some (.int x2), some (.int x3)], [.int 192, .int x3, .ref 0], [], q1) rfl trivial ?_
        refine hr.2.1 _ (192 ≤ x3) _ _ rfl (fun c55 => ?_) (fun c55 => ?_)
        · replace h := zk_t h c55
          refine hr.1 1 True _ _ (63, [some (.ref 0), some (.int x1), some (.int x2), some (.int x3)], [.int 0, .ref 0], [], q1) rfl trivial ?_
          replace h := Option.some.inj h
          subst h
          exact J63 trivial
        · replace h := zk_f h c55
          refine hr.1 2 True _ _ (63, [some (.ref 0), some (.int x1), some (.int x2), some (.int x3)], [.int 1, .ref 0], [], q1) rfl trivial ?_
          replace h := Option.some.inj h
          subst h
          exact J63 trivial
    clear h
    have h := hj
    clear hj
    refine hr.2.1 _ (x3 < 224) _ _ rfl (fun c27 => ?_) (fun c27 => ?_)
    · replace h := zk_t h c27
      replace h := Option.some.inj h
      subst h
      exact J43 trivial
    · replace h := zk_f h c27
      refine hr.1 7 True _ _ (43, [some (.ref 0), some (.int x1), some (.int x2), some (.int x3)], [], [], zp_i (zp_i D 0 35 1) 0 23 (zg_i D 0 5)) rfl ⟨trivial, (Or.inr rfl)⟩ ?_
      replace h := Option.some.inj h
      subst h
      exact J43 trivial
  · replace h := zk_f h c9
    refine hr.1 4 True _ _ (19, [some (.ref 0), some (.int x1), some (.int x2), some (.int x3)], [.int (zg_i D 0 28), .int (-5), .ref 0], [], D) rfl trivial ?_
    obtain ⟨q14, hc, h⟩ := zk_bind h
    refine hr.2.2.1 _ _ _ _ _ (d + 5) rfl (by omega) (c_g_R_fail (l := l) (E := E) (d := d + 5) hc) (fun v S hq => ?_)
    obtain ⟨rfl, rfl⟩ := hq
    clear hc
    exact hr.2.2.2 _ _ _ rfl trivial ⟨rfl, (congrArg (fun x => (([], x) : zx_S)) (Option.some.inj h))⟩
set_option maxRecDepth 100000 in
set_option maxHeartbeats 4000000 in
theorem c_g_R_plainChunk {l : Launch} {E : zx_E} {d : Nat} {x1 : Int32} {x2 : Int32} {D : zx_D} {q : zx_D} (h : g_R_plainChunk x1 x2 D = some q) : zx_MR l E 128 (d + 1) [.ref 0, .int x1, .int x2] ([], D) (fun v S => v = none ∧ S = ([], q)) := by
  refine zx_ofR (K := ck_R_plainChunk) rfl (by decide +kernel) rfl ok_R_plainChunk (Nat.le_of_ble_eq_true rfl) (fun Zp hr => ?_)
  show Zp (0, [some (.ref 0), some (.int x1), some (.int x2), none], [], [], D)
  have loop47 : ∀ (x1 : Int32) (k : Nat) (x3 : Int32) (D : zx_D) (x2 : Int32) (q : zx_D), g_R_plainChunk_47 x1 k x3 D = some q → (∀ (e3 : Int32), Zp (96, [some (.ref 0), some (.int x1), some (.int x2), some (.int e3)], [], [], q)) → Zp (47, [some (.ref 0), some (.int x1), some (.int x2), some (.int x3)], [], [], D) := by
    intro x1 k
    induction k with
    | zero => intro x3 D x2 q h hx; exact (zk_no h).elim
    | succ k ih =>
      intro x3 D x2 q h hx
      rw [g_R_plainChunk_47] at h
      refine hr.1 2 True _ _ (49, [some (.ref 0), some (.int x1), some (.int x2), some (.int x3)], [.int x1, .int x3], [], D) rfl trivial ?_
      refine hr.2.1 _ (x1 ≤ x3) _ _ rfl (fun c49 => ?_) (fun c49 => ?_)
      · replace h := zk_t h c49
        replace h := Option.some.inj h
        subst h
        exact hx x3
      · replace h := zk_f h c49
        obtain ⟨w3, h⟩ := zk_ck h
        obtain ⟨w4, h⟩ := zk_ck h
        refine hr.1 24 True _ _ (47, [some (.ref 0), some (.int x1), some (.int x2), some (.int (x3 + 1))], [], [], zp_i (zp_i (zp_i D 3 (zn (zg_i D 0 5)) (zg_i D 2 (zn (zg_i D 0 28)))) 0 5 ((zg_i D 0 5) + 1)) 0 28 ((zg_i D 0 28) + 1)) rfl ⟨⟨trivial, (zk_vp w3)⟩, (zk_vp w4)⟩ ?_
        exact ih (x3 + 1) (zp_i (zp_i (zp_i D 3 (zn (zg_i D 0 5)) (zg_i D 2 (zn (zg_i D 0 28)))) 0 5 ((zg_i D 0 5) + 1)) 0 28 ((zg_i D 0 28) + 1)) _ _ h hx
  rw [g_R_plainChunk] at h
  refine hr.1 5 True _ _ (9, [some (.ref 0), some (.int x1), some (.int x2), none], [.int 400, .int ((zg_i D 0 5) + x1)], [], D) rfl trivial ?_
  refine hr.2.1 _ ((zg_i D 0 5) + x1 ≤ 400) _ _ rfl (fun c9 => ?_) (fun c9 => ?_)
  · replace h := zk_t h c9
    refine hr.1 1 True _ _ (24, [some (.ref 0), some (.int x1), some (.int x2), none], [.int x2], [], D) rfl trivial ?_
    obtain ⟨q1, hj, h⟩ := zk_bind h
    have J45 : ∀ (_ : True), Zp (45, [some (.ref 0), some (.int x1), some (.int x2), none], [], [], q1) := by
      intro _
      refine hr.1 2 True _ _ (47, [some (.ref 0), some (.int x1), some (.int x2), some (.int 0)], [], [], q1) rfl trivial ?_
      obtain ⟨q2, hc, h⟩ := zk_bind h
      refine loop47 x1 10000 0 q1 x2 q2 hc (fun e3 => ?_)
      clear hc
      refine hr.1 8 True _ _ (107, [some (.ref 0), some (.int x1), some (.int x2), some (.int e3)], [], [], zp_i q2 9 (zn 9) ((zg_i q2 9 (zn 9)) + 1)) rfl ⟨⟨trivial, (zk_vp rfl)⟩, (zk_vp rfl)⟩ ?_
      exact hr.2.2.2 _ _ _ rfl trivial ⟨rfl, (congrArg (fun x => (([], x) : zx_S)) (Option.some.inj h))⟩
    clear h
    have h := hj
    clear hj
    refine hr.2.1 _ (x2 = 0) _ _ rfl (fun c24 => ?_) (fun c24 => ?_)
    · replace h := zk_t h c24
      replace h := Option.some.inj h
      subst h
      exact J45 trivial
    · replace h := zk_f h c24
      refine hr.1 10 True _ _ (45, [some (.ref 0), some (.int x1), some (.int x2), none], [], [], zp_i (zp_i (zp_i D 0 35 1) 0 36 1) 0 23 (zg_i D 0 5)) rfl ⟨⟨trivial, (Or.inr rfl)⟩, (Or.inr rfl)⟩ ?_
      replace h := Option.some.inj h
      subst h
      exact J45 trivial
  · replace h := zk_f h c9
    refine hr.1 4 True _ _ (19, [some (.ref 0), some (.int x1), some (.int x2), none], [.int (zg_i D 0 28), .int (-5), .ref 0], [], D) rfl trivial ?_
    obtain ⟨q3, hc, h⟩ := zk_bind h
    refine hr.2.2.1 _ _ _ _ _ (d) rfl (by omega) (c_g_R_fail (l := l) (E := E) (d := d) hc) (fun v S hq => ?_)
    obtain ⟨rfl, rfl⟩ := hq
    clear hc
    exact hr.2.2.2 _ _ _ rfl trivial ⟨rfl, (congrArg (fun x => (([], x) : zx_S)) (Option.some.inj h))⟩
set_option maxRecDepth 100000 in
set_option maxHeartbeats 4000000 in
theorem c_g_R_chunk {l : Launch} {E : zx_E} {d : Nat} {D : zx_D} {q : Int32 × zx_D} (h : g_R_chunk D = some q) : zx_MR l E 124 (d + 7) [.ref 0] ([], D) (fun v S => v = some (.int q.1) ∧ S = ([], q.2)) := by
  refine zx_ofR (K := ck_R_chunk) rfl (by decide +kernel) rfl ok_R_chunk (Nat.le_of_ble_eq_true rfl) (fun Zp hr => ?_)
  show Zp (0, [some (.ref 0), none, none, none, none], [], [], D)
  have jump98 : ∀ (x1 : Int32) (x2 : Int32) (D : zx_D), g_R_chunk_98 x1 x2 D = some q → Zp (98, [some (.ref 0), some (.int x1), some (.int x2), none, none], [], [], D) := by
    intro x1 x2 D h
    rw [g_R_chunk_98] at h
    refine hr.1 7 True _ _ (109, [some (.ref 0), some (.int x1), some (.int x2), none, none], [.int x1], [], zp_i D 0 28 ((zg_i D 0 28) + 1)) rfl trivial ?_
    refine hr.2.1 _ (¬ x1 = 0) _ _ rfl (fun c109 => ?_) (fun c109 => ?_)
    · replace h := zk_t h c109
      refine hr.1 3 True _ _ (119, [some (.ref 0), some (.int x1), some (.int x2), none, none], [.int 128, .int x1, .ref 0], [], zp_i D 0 28 ((zg_i D 0 28) + 1)) rfl trivial ?_
      obtain ⟨q3, hj, h⟩ := zk_bind h
      have J130 : ∀ (_ : True), Zp (130, [some (.ref 0), some (.int x1), some (.int x2), none, none], [.int q3, .ref 0], [], zp_i D 0 28 ((zg_i D 0 28) + 1)) := by
        intro _
        obtain ⟨q4, hc, h⟩ := zk_bind h
        refine hr.2.2.1 _ _ _ _ _ (d + 6) rfl (by omega) (c_g_R_length (l := l) (E := E) (d := d + 4) hc) (fun v S hq => ?_)
        obtain ⟨rfl, rfl⟩ := hq
        clear hc
        refine hr.1 3 True _ _ (138, [some (.ref 0), some (.int x1), some (.int x2), some (.int q4.1), none], [.int 128, .int x1], [], q4.2) rfl trivial ?_
        refine hr.2.1 _ (128 ≤ x1) _ _ rfl (fun c138 => ?_) (fun c138 => ?_)
        · replace h := zk_t h c138
          refine hr.1 2 True _ _ (166, [some (.ref 0), some (.int x1), some (.int x2), some (.int q4.1), none], [.int 0, .ref 0], [], q4.2) rfl trivial ?_
          obtain ⟨q5, hc, h⟩ := zk_bind h
          refine hr.2.2.1 _ _ _ _ _ (d + 6) rfl (by omega) (c_g_R_length (l := l) (E := E) (d := d + 4) hc) (fun v S hq => ?_)
          obtain ⟨rfl, rfl⟩ := hq
          clear hc
          refine hr.1 3 True _ _ (175, [some (.ref 0), some (.int x1), some (.int x2), some (.int q4.1), some (.int q5.1)], [.int 192, .int x1], [], q5.2) rfl trivial ?_
          obtain ⟨q8, hj, h⟩ := zk_bind h
          have J216 : ∀ (_ : True), Zp (216, [some (.ref 0), some (.int x1), some (.int x2), some (.int q4.1), some (.int q5.1)], [], [], q8) := by
            intro _
            refine hr.1 2 True _ _ (220, [some (.ref 0), some (.int x1), some (.int x2), some (.int q4.1), some (.int q5.1)], [.int (zg_i q8 0 29)], [], q8) rfl trivial ?_
            refine hr.2.1 _ (¬ zg_i q8 0 29 = 0) _ _ rfl (fun c220 => ?_) (fun c220 => ?_)
            · replace h := zk_t h c220
              refine hr.1 1 True _ _ (241, [some (.ref 0), some (.int x1), some (.int x2), some (.int q4.1), some (.int q5.1)], [.int 1], [], q8) rfl trivial ?_
              exact hr.2.2.2 _ _ _ rfl (Or.inr rfl) ⟨(congrArg (fun x => some (Value.int x.1)) (Option.some.inj h)), (congrArg (fun x => (([], x.2) : zx_S)) (Option.some.inj h))⟩
            · replace h := zk_f h c220
              refine hr.1 2 True _ _ (226, [some (.ref 0), some (.int x1), some (.int x2), some (.int q4.1), some (.int q5.1)], [.int q5.1, .ref 0], [], q8) rfl trivial ?_
              obtain ⟨q9, hc, h⟩ := zk_bind h
              refine hr.2.2.1 _ _ _ _ _ (d + 6) rfl (by omega) (c_g_R_has (l := l) (E := E) (d := d + 5) hc) (fun v S hq => ?_)
              obtain ⟨rfl, rfl⟩ := hq
              clear hc
              refine hr.2.1 _ (q9.1 = 0) _ _ rfl (fun c229 => ?_) (fun c229 => ?_)
              · replace h := zk_t h c229
                refine hr.1 1 True _ _ (241, [some (.ref 0), some (.int x1), some (.int x2), some (.int q4.1), some (.int q5.1)], [.int 1], [], q9.2) rfl trivial ?_
                exact hr.2.2.2 _ _ _ rfl (Or.inr rfl) ⟨(congrArg (fun x => some (Value.int x.1)) (Option.some.inj h)), (congrArg (fun x => (([], x.2) : zx_S)) (Option.some.inj h))⟩
              · replace h := zk_f h c229
                refine hr.1 4 True _ _ (237, [some (.ref 0), some (.int x1), some (.int x2), some (.int q4.1), some (.int q5.1)], [.int x1, .int q5.1, .int q4.1, .ref 0], [], q9.2) rfl trivial ?_
                obtain ⟨q10, hc, h⟩ := zk_bind h
                refine hr.2.2.1 _ _ _ _ _ (d + 6) rfl (by omega) (c_g_R_coded (l := l) (E := E) (d := d) hc) (fun v S hq => ?_)
                obtain ⟨rfl, rfl⟩ := hq
                clear hc
                refine hr.1 1 True _ _ (241, [some (.ref 0), some (.int x1), some (.int x2), some (.int q4.1), some (.int q5.1)], [.int 1], [], q10) rfl trivial ?_
                exact hr.2.2.2 _ _ _ rfl (Or.inr rfl) ⟨(congrArg (fun x => some (Value.int x.1)) (Option.some.inj h)), (congrArg (fun x => (([], x.2) : zx_S)) (Option.some.inj h))⟩
          clear h
          have h := hj
          clear hj
          refine hr.2.1 _ (x1 < 192) _ _ rfl (fun c175 => ?_) (fun c175 => ?_)
          · replace h := zk_t h c175
            replace h := Option.some.inj h
            subst h
            exact J216 trivial
          · replace h := zk_f h c175
            refine hr.1 2 True _ _ (182, [some (.ref 0), some (.int x1), some (.int x2), some (.int q4.1), some (.int q5.1)], [.int (zg_i q5.2 0 29)], [], q5.2) rfl trivial ?_
            refine hr.2.1 _ (¬ zg_i q5.2 0 29 = 0) _ _ rfl (fun c182 => ?_) (fun c182 => ?_)
            · replace h := zk_t h c182
              replace h := Option.some.inj h
              subst h
              exact J216 trivial
            · replace h := zk_f h c182
              refine hr.1 2 True _ _ (187, [some (.ref 0), some (.int x1), some (.int x2), some (.int q4.1), some (.int q5.1)], [.int 1, .ref 0], [], q5.2) rfl trivial ?_
              obtain ⟨q6, hc, h⟩ := zk_bind h
              refine hr.2.2.1 _ _ _ _ _ (d + 6) rfl (by omega) (c_g_R_has (l := l) (E := E) (d := d + 5) hc) (fun v S hq => ?_)
              obtain ⟨rfl, rfl⟩ := hq
              clear hc
              refine hr.2.1 _ (q6.1 = 0) _ _ rfl (fun c190 => ?_) (fun c190 => ?_)
              · replace h := zk_t h c190
                replace h := Option.some.inj h
                subst h
                exact J216 trivial
              · replace h := zk_f h c190
                obtain ⟨w3, h⟩ := zk_ck h
                refine hr.1 6 True _ _ (203, [some (.ref 0), some (.int x1), some (.int x2), some (.int q4.1), some (.int q5.1)], [.int (zg_i q6.2 2 (zn (zg_i q6.2 0 28))), .ref 0], [], q6.2) rfl ⟨trivial, (zk_vp w3)⟩ ?_
                obtain ⟨q7, hc, h⟩ := zk_bind h
                refine hr.2.2.1 _ _ _ _ _ (d + 6) rfl (by omega) (c_g_R_properties (l := l) (E := E) (d := d + 5) hc) (fun v S hq => ?_)
                obtain ⟨rfl, rfl⟩ := hq
                clear hc
                refine hr.1 6 True _ _ (216, [some (.ref 0), some (.int x1), some (.int x2), some (.int q4.1), some (.int q5.1)], [], [], zp_i q7 0 28 ((zg_i q7 0 28) + 1)) rfl trivial ?_
                replace h := Option.some.inj h
                subst h
                exact J216 trivial
        · replace h := zk_f h c138
          refine hr.1 2 True _ _ (145, [some (.ref 0), some (.int x1), some (.int x2), some (.int q4.1), none], [.int (zg_i q4.2 0 29)], [], q4.2) rfl trivial ?_
          refine hr.2.1 _ (¬ zg_i q4.2 0 29 = 0) _ _ rfl (fun c145 => ?_) (fun c145 => ?_)
          · replace h := zk_t h c145
            refine hr.1 1 True _ _ (163, [some (.ref 0), some (.int x1), some (.int x2), some (.int q4.1), none], [.int 1], [], q4.2) rfl trivial ?_
            exact hr.2.2.2 _ _ _ rfl (Or.inr rfl) ⟨(congrArg (fun x => some (Value.int x.1)) (Option.some.inj h)), (congrArg (fun x => (([], x.2) : zx_S)) (Option.some.inj h))⟩
          · replace h := zk_f h c145
            refine hr.1 2 True _ _ (150, [some (.ref 0), some (.int x1), some (.int x2), some (.int q4.1), none], [.int q4.1, .ref 0], [], q4.2) rfl trivial ?_
            obtain ⟨q11, hc, h⟩ := zk_bind h
            refine hr.2.2.1 _ _ _ _ _ (d + 6) rfl (by omega) (c_g_R_has (l := l) (E := E) (d := d + 5) hc) (fun v S hq => ?_)
            obtain ⟨rfl, rfl⟩ := hq
            clear hc
            refine hr.2.1 _ (q11.1 = 0) _ _ rfl (fun c153 => ?_) (fun c153 => ?_)
            · replace h := zk_t h c153
              refine hr.1 1 True _ _ (163, [some (.ref 0), some (.int x1), some (.int x2), some (.int q4.1), none], [.int 1], [], q11.2) rfl trivial ?_
              exact hr.2.2.2 _ _ _ rfl (Or.inr rfl) ⟨(congrArg (fun x => some (Value.int x.1)) (Option.some.inj h)), (congrArg (fun x => (([], x.2) : zx_S)) (Option.some.inj h))⟩
            · replace h := zk_f h c153
              refine hr.1 3 True _ _ (159, [some (.ref 0), some (.int x1), some (.int x2), some (.int q4.1), none], [.int x2, .int q4.1, .ref 0], [], q11.2) rfl trivial ?_
              obtain ⟨q12, hc, h⟩ := zk_bind h
              refine hr.2.2.1 _ _ _ _ _ (d + 6) rfl (by omega) (c_g_R_plainChunk (l := l) (E := E) (d := d + 5) hc) (fun v S hq => ?_)
              obtain ⟨rfl, rfl⟩ := hq
              clear hc
              refine hr.1 1 True _ _ (163, [some (.ref 0), some (.int x1), some (.int x2), some (.int q4.1), none], [.int 1], [], q12) rfl trivial ?_
              exact hr.2.2.2 _ _ _ rfl (Or.inr rfl) ⟨(congrArg (fun x => some (Value.int x.1)) (Option.some.inj h)), (congrArg (fun x => (([], x.2) : zx_S)) (Option.some.inj h))⟩
      clear h
      have h := hj
      clear hj
      refine hr.2.1 _ (128 ≤ x1) _ _ rfl (fun c119 => ?_) (fun c119 => ?_)
      · replace h := zk_t h c119
        refine hr.1 3 True _ _ (130, [some (.ref 0), some (.int x1), some (.int x2), none, none], [.int (x1 &&& 31), .ref 0], [], zp_i D 0 28 ((zg_i D 0 28) + 1)) rfl trivial ?_
        replace h := Option.some.inj h
        subst h
        exact J130 trivial
      · replace h := zk_f h c119
        refine hr.1 2 True _ _ (130, [some (.ref 0), some (.int x1), some (.int x2), none, none], [.int 0, .ref 0], [], zp_i D 0 28 ((zg_i D 0 28) + 1)) rfl trivial ?_
        replace h := Option.some.inj h
        subst h
        exact J130 trivial
    · replace h := zk_f h c109
      refine hr.1 1 True _ _ (113, [some (.ref 0), some (.int x1), some (.int x2), none, none], [.int 0], [], zp_i D 0 28 ((zg_i D 0 28) + 1)) rfl trivial ?_
      exact hr.2.2.2 _ _ _ rfl (Or.inl rfl) ⟨(congrArg (fun x => some (Value.int x.1)) (Option.some.inj h)), (congrArg (fun x => (([], x.2) : zx_S)) (Option.some.inj h))⟩
  have jump65 : ∀ (x1 : Int32) (x2 : Int32) (D : zx_D), g_R_chunk_65 x1 x2 D = some q → Zp (65, [some (.ref 0), some (.int x1), some (.int x2), none, none], [], [], D) := by
    intro x1 x2 D h
    rw [g_R_chunk_65] at h
    refine hr.1 2 True _ _ (69, [some (.ref 0), some (.int x1), some (.int x2), none, none], [.int 128, .int x1], [], D) rfl trivial ?_
    refine hr.2.1 _ (x1 < 128) _ _ rfl (fun c69 => ?_) (fun c69 => ?_)
    · replace h := zk_t h c69
      exact jump98 x1 x2 D h
    · replace h := zk_f h c69
      refine hr.1 2 True _ _ (76, [some (.ref 0), some (.int x1), some (.int x2), none, none], [.int 192, .int x1], [], D) rfl trivial ?_
      refine hr.2.1 _ (192 ≤ x1) _ _ rfl (fun c76 => ?_) (fun c76 => ?_)
      · replace h := zk_t h c76
        exact jump98 x1 x2 D h
      · replace h := zk_f h c76
        refine hr.1 2 True _ _ (83, [some (.ref 0), some (.int x1), some (.int x2), none, none], [.int (zg_i D 0 36)], [], D) rfl trivial ?_
        refine hr.2.1 _ (zg_i D 0 36 = 0) _ _ rfl (fun c83 => ?_) (fun c83 => ?_)
        · replace h := zk_t h c83
          exact jump98 x1 x2 D h
        · replace h := zk_f h c83
          refine hr.1 4 True _ _ (93, [some (.ref 0), some (.int x1), some (.int x2), none, none], [.int (zg_i D 0 28), .int (-3), .ref 0], [], D) rfl trivial ?_
          obtain ⟨q13, hc, h⟩ := zk_bind h
          refine hr.2.2.1 _ _ _ _ _ (d + 6) rfl (by omega) (c_g_R_fail (l := l) (E := E) (d := d + 6) hc) (fun v S hq => ?_)
          obtain ⟨rfl, rfl⟩ := hq
          clear hc
          refine hr.1 1 True _ _ (97, [some (.ref 0), some (.int x1), some (.int x2), none, none], [.int 0], [], q13) rfl trivial ?_
          exact hr.2.2.2 _ _ _ rfl (Or.inl rfl) ⟨(congrArg (fun x => some (Value.int x.1)) (Option.some.inj h)), (congrArg (fun x => (([], x.2) : zx_S)) (Option.some.inj h))⟩
  have jump50 : ∀ (x1 : Int32) (x2 : Int32) (D : zx_D), g_R_chunk_50 x1 x2 D = some q → Zp (50, [some (.ref 0), some (.int x1), some (.int x2), none, none], [], [], D) := by
    intro x1 x2 D h
    rw [g_R_chunk_50] at h
    refine hr.1 1 True _ _ (51, [some (.ref 0), some (.int x1), some (.int x2), none, none], [.int x1], [], D) rfl trivial ?_
    refine hr.2.1 _ (x1 ≤ 0) _ _ rfl (fun c51 => ?_) (fun c51 => ?_)
    · replace h := zk_t h c51
      exact jump65 x1 x2 D h
    · replace h := zk_f h c51
      refine hr.1 2 True _ _ (58, [some (.ref 0), some (.int x1), some (.int x2), none, none], [.int (zg_i D 0 35)], [], D) rfl trivial ?_
      refine hr.2.1 _ (¬ zg_i D 0 35 = 0) _ _ rfl (fun c58 => ?_) (fun c58 => ?_)
      · replace h := zk_t h c58
        exact jump65 x1 x2 D h
      · replace h := zk_f h c58
        refine hr.1 1 True _ _ (62, [some (.ref 0), some (.int x1), some (.int x2), none, none], [.int x2], [], D) rfl trivial ?_
        refine hr.2.1 _ (x2 = 0) _ _ rfl (fun c62 => ?_) (fun c62 => ?_)
        · replace h := zk_t h c62
          refine hr.1 4 True _ _ (93, [some (.ref 0), some (.int x1), some (.int x2), none, none], [.int (zg_i D 0 28), .int (-3), .ref 0], [], D) rfl trivial ?_
          obtain ⟨q14, hc, h⟩ := zk_bind h
          refine hr.2.2.1 _ _ _ _ _ (d + 6) rfl (by omega) (c_g_R_fail (l := l) (E := E) (d := d + 6) hc) (fun v S hq => ?_)
          obtain ⟨rfl, rfl⟩ := hq
          clear hc
          refine hr.1 1 True _ _ (97, [some (.ref 0), some (.int x1), some (.int x2), none, none], [.int 0], [], q14) rfl trivial ?_
          exact hr.2.2.2 _ _ _ rfl (Or.inl rfl) ⟨(congrArg (fun x => some (Value.int x.1)) (Option.some.inj h)), (congrArg (fun x => (([], x.2) : zx_S)) (Option.some.inj h))⟩
        · replace h := zk_f h c62
          exact jump65 x1 x2 D h
  rw [g_R_chunk] at h
  refine hr.1 2 True _ _ (2, [some (.ref 0), none, none, none, none], [.int 1, .ref 0], [], D) rfl trivial ?_
  obtain ⟨q1, hc, h⟩ := zk_bind h
  refine hr.2.2.1 _ _ _ _ _ (d + 6) rfl (by omega) (c_g_R_has (l := l) (E := E) (d := d + 5) hc) (fun v S hq => ?_)
  obtain ⟨rfl, rfl⟩ := hq
  clear hc
  refine hr.2.1 _ (¬ q1.1 = 0) _ _ rfl (fun c5 => ?_) (fun c5 => ?_)
  · replace h := zk_t h c5
    obtain ⟨w4, h⟩ := zk_ck h
    refine hr.1 8 True _ _ (22, [some (.ref 0), some (.int (zg_i q1.2 2 (zn (zg_i q1.2 0 28)))), none, none, none], [.int 1, .int (zg_i q1.2 2 (zn (zg_i q1.2 0 28)))], [], q1.2) rfl ⟨trivial, (zk_vp w4)⟩ ?_
    obtain ⟨q2, hj, h⟩ := zk_bind h
    have J37 : ∀ (_ : True), Zp (37, [some (.ref 0), some (.int (zg_i q1.2 2 (zn (zg_i q1.2 0 28)))), none, none, none], [.int q2], [], q1.2) := by
      intro _
      refine hr.1 3 True _ _ (40, [some (.ref 0), some (.int (zg_i q1.2 2 (zn (zg_i q1.2 0 28)))), some (.int q2), none, none], [.int 2, .int (zg_i q1.2 2 (zn (zg_i q1.2 0 28)))], [], q1.2) rfl trivial ?_
      refine hr.2.1 _ (zg_i q1.2 2 (zn (zg_i q1.2 0 28)) ≤ 2) _ _ rfl (fun c40 => ?_) (fun c40 => ?_)
      · replace h := zk_t h c40
        exact jump50 (zg_i q1.2 2 (zn (zg_i q1.2 0 28))) q2 q1.2 h
      · replace h := zk_f h c40
        refine hr.1 2 True _ _ (47, [some (.ref 0), some (.int (zg_i q1.2 2 (zn (zg_i q1.2 0 28)))), some (.int q2), none, none], [.int 128, .int (zg_i q1.2 2 (zn (zg_i q1.2 0 28)))], [], q1.2) rfl trivial ?_
        refine hr.2.1 _ (zg_i q1.2 2 (zn (zg_i q1.2 0 28)) < 128) _ _ rfl (fun c47 => ?_) (fun c47 => ?_)
        · replace h := zk_t h c47
          refine hr.1 4 True _ _ (93, [some (.ref 0), some (.int (zg_i q1.2 2 (zn (zg_i q1.2 0 28)))), some (.int q2), none, none], [.int (zg_i q1.2 0 28), .int (-3), .ref 0], [], q1.2) rfl trivial ?_
          obtain ⟨q15, hc, h⟩ := zk_bind h
          refine hr.2.2.1 _ _ _ _ _ (d + 6) rfl (by omega) (c_g_R_fail (l := l) (E := E) (d := d + 6) hc) (fun v S hq => ?_)
          obtain ⟨rfl, rfl⟩ := hq
          clear hc
          refine hr.1 1 True _ _ (97, [some (.ref 0), some (.int (zg_i q1.2 2 (zn (zg_i q1.2 0 28)))), some (.int q2), none, none], [.int 0], [], q15) rfl trivial ?_
          exact hr.2.2.2 _ _ _ rfl (Or.inl rfl) ⟨(congrArg (fun x => some (Value.int x.1)) (Option.some.inj h)), (congrArg (fun x => (([], x.2) : zx_S)) (Option.some.inj h))⟩
        · replace h := zk_f h c47
          exact jump50 (zg_i q1.2 2 (zn (zg_i q1.2 0 28))) q2 q1.2 h
    clear h
    have h := hj
    clear hj
    refine hr.2.1 _ (zg_i q1.2 2 (zn (zg_i q1.2 0 28)) = 1) _ _ rfl (fun c22 => ?_) (fun c22 => ?_)
    · replace h := zk_t h c22
      refine hr.1 2 True _ _ (37, [some (.ref 0), some (.int (zg_i q1.2 2 (zn (zg_i q1.2 0 28)))), none, none, none], [.int 1], [], q1.2) rfl trivial ?_
      replace h := Option.some.inj h
      subst h
      exact J37 trivial
    · replace h := zk_f h c22
      refine hr.1 2 True _ _ (29, [some (.ref 0), some (.int (zg_i q1.2 2 (zn (zg_i q1.2 0 28)))), none, none, none], [.int 224, .int (zg_i q1.2 2 (zn (zg_i q1.2 0 28)))], [], q1.2) rfl trivial ?_
      refine hr.2.1 _ (zg_i q1.2 2 (zn (zg_i q1.2 0 28)) < 224) _ _ rfl (fun c29 => ?_) (fun c29 => ?_)
      · replace h := zk_t h c29
        refine hr.1 1 True _ _ (37, [some (.ref 0), some (.int (zg_i q1.2 2 (zn (zg_i q1.2 0 28)))), none, none, none], [.int 0], [], q1.2) rfl trivial ?_
        replace h := Option.some.inj h
        subst h
        exact J37 trivial
      · replace h := zk_f h c29
        refine hr.1 2 True _ _ (37, [some (.ref 0), some (.int (zg_i q1.2 2 (zn (zg_i q1.2 0 28)))), none, none, none], [.int 1], [], q1.2) rfl trivial ?_
        replace h := Option.some.inj h
        subst h
        exact J37 trivial
  · replace h := zk_f h c5
    refine hr.1 1 True _ _ (9, [some (.ref 0), none, none, none, none], [.int 0], [], q1.2) rfl trivial ?_
    exact hr.2.2.2 _ _ _ rfl (Or.inl rfl) ⟨(congrArg (fun x => some (Value.int x.1)) (Option.some.inj h)), (congrArg (fun x => (([], x.2) : zx_S)) (Option.some.inj h))⟩
