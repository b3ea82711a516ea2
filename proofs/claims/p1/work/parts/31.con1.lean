/-! Contracts (written by a program) -/
set_option maxRecDepth 100000 in
set_option maxHeartbeats 4000000 in
theorem c_g_P_rowOf_b0 {l : Launch} {E : zx_E} {d : Nat} {cb sd ln pp : Nat} {D : zx_D} {q : Unit} (h : g_P_rowOf_b0 D = some q) : zx_MC l E 13 d [.ref 0, .int 0] ([cb, sd, ln, pp], D) (fun v S => v = some (.ref 1) ∧ S = ([cb, sd, ln, pp], D)) := by
  refine zx_ofC (K := ck_P_rowOf) rfl (by decide +kernel) rfl ok_P_rowOf (Nat.le_of_ble_eq_true rfl) (fun Zp hr => ?_)
  show Zp (0, [some (.ref 0), some (.int 0)], [], [cb, sd, ln, pp], D)
  rw [g_P_rowOf_b0] at h
  refine hr.1 1 True _ _ (1, [some (.ref 0), some (.int 0)], [.int 0], [cb, sd, ln, pp], D) rfl trivial ?_
  refine hr.2.1 _ ((0 : Int32) = 0) _ _ rfl (fun _ => ?_) (fun h => absurd (by decide) h)
  refine hr.1 2 True _ _ (15, [some (.ref 0), some (.int 0)], [.ref 1], [cb, sd, ln, pp], D) rfl trivial ?_
  exact hr.2.2.2 _ _ _ rfl trivial ⟨rfl, rfl⟩
set_option maxRecDepth 100000 in
set_option maxHeartbeats 4000000 in
theorem c_g_Row_hasRoom_1 {l : Launch} {E : zx_E} {d : Nat} {cb sd ln pp : Nat} {x1 : Int32} {D : zx_D} {q : Int32} (h : g_Row_hasRoom_1 x1 D = some q) : zx_MC l E 21 d [.ref 1, .int x1] ([cb, sd, ln, pp], D) (fun v S => v = some (.int q) ∧ S = ([cb, sd, ln, pp], D)) := by
  refine zx_ofC (K := ck_Row_hasRoom) rfl (by decide +kernel) rfl ok_Row_hasRoom (Nat.le_of_ble_eq_true rfl) (fun Zp hr => ?_)
  show Zp (0, [some (.ref 1), some (.int x1)], [], [cb, sd, ln, pp], D)
  rw [g_Row_hasRoom_1] at h
  refine hr.1 7 True _ _ (11, [some (.ref 1), some (.int x1)], [.int (400 - (zg_i D 1 1)), .int x1], [cb, sd, ln, pp], D) rfl trivial ?_
  refine hr.2.1 _ (400 - (zg_i D 1 1) < x1) _ _ rfl (fun c11 => ?_) (fun c11 => ?_)
  · replace h := zk_t h c11
    refine hr.1 1 True _ _ (19, [some (.ref 1), some (.int x1)], [.int 0], [cb, sd, ln, pp], D) rfl trivial ?_
    exact hr.2.2.2 _ _ _ rfl (Or.inl rfl) ⟨(congrArg (fun x => some (Value.int x)) (Option.some.inj h)), rfl⟩
  · replace h := zk_f h c11
    refine hr.1 2 True _ _ (19, [some (.ref 1), some (.int x1)], [.int 1], [cb, sd, ln, pp], D) rfl trivial ?_
    exact hr.2.2.2 _ _ _ rfl (Or.inr rfl) ⟨(congrArg (fun x => some (Value.int x)) (Option.some.inj h)), rfl⟩
set_option maxRecDepth 100000 in
set_option maxHeartbeats 4000000 in
theorem c_g_Row_append_1 {l : Launch} {E : zx_E} {d : Nat} {cb sd ln pp : Nat} {x1 : Int32} {D : zx_D} {q : zx_D} (h : g_Row_append_1 x1 D = some q) : zx_MC l E 22 d [.ref 1, .int x1] ([cb, sd, ln, pp], D) (fun v S => v = none ∧ S = ([cb, sd, ln, pp], q)) := by
  refine zx_ofC (K := ck_Row_append) rfl (by decide +kernel) rfl ok_Row_append (Nat.le_of_ble_eq_true rfl) (fun Zp hr => ?_)
  show Zp (0, [some (.ref 1), some (.int x1)], [], [cb, sd, ln, pp], D)
  rw [g_Row_append_1] at h
  refine hr.1 5 True _ _ (9, [some (.ref 1), some (.int x1)], [.int 400, .int (zg_i D 1 1)], [cb, sd, ln, pp], D) rfl trivial ?_
  refine hr.2.1 _ (zg_i D 1 1 < 400) _ _ rfl (fun c9 => ?_) (fun c9 => ?_)
  · replace h := zk_t h c9
    obtain ⟨w2, h⟩ := zk_ck h
    refine hr.1 12 True _ _ (38, [some (.ref 1), some (.int x1)], [], [cb, sd, ln, pp], zp_i (zp_i D 2 (zn (zg_i D 1 1)) x1) 1 1 ((zg_i D 1 1) + 1)) rfl ⟨trivial, (zk_vp w2)⟩ ?_
    exact hr.2.2.2 _ _ _ rfl trivial ⟨rfl, (congrArg (fun x => (([cb, sd, ln, pp], x) : zx_S)) (Option.some.inj h))⟩
  · replace h := zk_f h c9
    refine hr.1 3 True _ _ (17, [some (.ref 1), some (.int x1)], [], [cb, sd, ln, pp], zp_i D 1 2 1) rfl ⟨trivial, (Or.inr rfl)⟩ ?_
    exact hr.2.2.2 _ _ _ rfl trivial ⟨rfl, (congrArg (fun x => (([cb, sd, ln, pp], x) : zx_S)) (Option.some.inj h))⟩
set_option maxRecDepth 100000 in
set_option maxHeartbeats 4000000 in
theorem c_g_P_feed_b0 {l : Launch} {E : zx_E} {d : Nat} {cb sd ln pp : Nat} {x1 : Int64} {x3 : Int32} {D : zx_D} {q : Int32 × zx_D} (h : g_P_feed_b0 x1 x3 D = some q) : zx_MC l E 0 (d + 1) [.ref 0, .long x1, .int x3, .int 0] ([cb, sd, ln, pp], D) (fun v S => v = some (.int q.1) ∧ S = ([cb, sd, ln, pp], q.2)) := by
  refine zx_ofC (K := ck_P_feed) rfl (by decide +kernel) rfl ok_P_feed (Nat.le_of_ble_eq_true rfl) (fun Zp hr => ?_)
  show Zp (0, [some (.ref 0), some (.long x1), none, some (.int x3), some (.int 0), none, none], [], [cb, sd, ln, pp], D)
  have loop35 : ∀ (x1 : Int64) (k : Nat) (x6 : Int32) (D : zx_D) (x3 : Int32) (x4 : Int32) (q : zx_D), g_P_feed_b0_35 x1 k x6 D = some q → (∀ (e6 : Int32), Zp (63, [some (.ref 0), some (.long x1), none, some (.int x3), some (.int x4), some (.ref 1), some (.int e6)], [], [cb, sd, ln, pp], q)) → Zp (35, [some (.ref 0), some (.long x1), none, some (.int x3), some (.int x4), some (.ref 1), some (.int x6)], [], [cb, sd, ln, pp], D) := by
    intro x1 k
    induction k with
    | zero => intro x6 D x3 x4 q h hx; exact (zk_no h).elim
    | succ k ih =>
      intro x6 D x3 x4 q h hx
      rw [g_P_feed_b0_35] at h
      refine hr.1 1 True _ _ (37, [some (.ref 0), some (.long x1), none, some (.int x3), some (.int x4), some (.ref 1), some (.int x6)], [.int x6], [cb, sd, ln, pp], D) rfl trivial ?_
      refine hr.2.1 _ (x6 < 0) _ _ rfl (fun c37 => ?_) (fun c37 => ?_)
      · replace h := zk_t h c37
        replace h := Option.some.inj h
        subst h
        exact hx x6
      · replace h := zk_f h c37
        refine hr.1 9 True _ _ (54, [some (.ref 0), some (.long x1), none, some (.int x3), some (.int x4), some (.ref 1), some (.int x6)], [.int ((((zo_lushr x1 (8 * x6))).toInt32) &&& 255), .ref 1], [cb, sd, ln, pp], D) rfl trivial ?_
        obtain ⟨q3, hc, h⟩ := zk_bind h
        refine hr.2.2.1 _ _ _ _ _ (d) rfl (by omega) (c_g_Row_append_1 (l := l) (E := E) (d := d) (cb := cb) (sd := sd) (ln := ln) (pp := pp) hc) (fun v S hq => ?_)
        obtain ⟨rfl, rfl⟩ := hq
        clear hc
        refine hr.1 2 True _ _ (35, [some (.ref 0), some (.long x1), none, some (.int x3), some (.int x4), some (.ref 1), some (.int (x6 + (-1)))], [], [cb, sd, ln, pp], q3) rfl trivial ?_
        exact ih (x6 + (-1)) q3 _ _ _ h hx
  rw [g_P_feed_b0] at h
  refine hr.1 2 True _ _ (3, [some (.ref 0), some (.long x1), none, some (.int x3), some (.int 0), none, none], [.int 0, .ref 0], [cb, sd, ln, pp], D) rfl trivial ?_
  obtain ⟨q1, hc, h⟩ := zk_bind h
  refine hr.2.2.1 _ _ _ _ _ (d) rfl (by omega) (c_g_P_rowOf_b0 (l := l) (E := E) (d := d) (cb := cb) (sd := sd) (ln := ln) (pp := pp) hc) (fun v S hq => ?_)
  obtain ⟨rfl, rfl⟩ := hq
  clear hc
  refine hr.1 3 True _ _ (10, [some (.ref 0), some (.long x1), none, some (.int x3), some (.int 0), some (.ref 1), none], [.int 1, .int x3], [cb, sd, ln, pp], D) rfl trivial ?_
  refine hr.2.1 _ (x3 < 1) _ _ rfl (fun c10 => ?_) (fun c10 => ?_)
  · replace h := zk_t h c10
    refine hr.1 1 True _ _ (29, [some (.ref 0), some (.long x1), none, some (.int x3), some (.int 0), some (.ref 1), none], [.int (-1)], [cb, sd, ln, pp], D) rfl trivial ?_
    exact hr.2.2.2 _ _ _ rfl trivial ⟨(congrArg (fun x => some (Value.int x.1)) (Option.some.inj h)), (congrArg (fun x => (([cb, sd, ln, pp], x.2) : zx_S)) (Option.some.inj h))⟩
  · replace h := zk_f h c10
    refine hr.1 2 True _ _ (16, [some (.ref 0), some (.long x1), none, some (.int x3), some (.int 0), some (.ref 1), none], [.int 8, .int x3], [cb, sd, ln, pp], D) rfl trivial ?_
    refine hr.2.1 _ (8 < x3) _ _ rfl (fun c16 => ?_) (fun c16 => ?_)
    · replace h := zk_t h c16
      refine hr.1 1 True _ _ (29, [some (.ref 0), some (.long x1), none, some (.int x3), some (.int 0), some (.ref 1), none], [.int (-1)], [cb, sd, ln, pp], D) rfl trivial ?_
      exact hr.2.2.2 _ _ _ rfl trivial ⟨(congrArg (fun x => some (Value.int x.1)) (Option.some.inj h)), (congrArg (fun x => (([cb, sd, ln, pp], x.2) : zx_S)) (Option.some.inj h))⟩
    · replace h := zk_f h c16
      refine hr.1 2 True _ _ (22, [some (.ref 0), some (.long x1), none, some (.int x3), some (.int 0), some (.ref 1), none], [.int x3, .ref 1], [cb, sd, ln, pp], D) rfl trivial ?_
      obtain ⟨q2, hc, h⟩ := zk_bind h
      refine hr.2.2.1 _ _ _ _ _ (d) rfl (by omega) (c_g_Row_hasRoom_1 (l := l) (E := E) (d := d) (cb := cb) (sd := sd) (ln := ln) (pp := pp) hc) (fun v S hq => ?_)
      obtain ⟨rfl, rfl⟩ := hq
      clear hc
      refine hr.2.1 _ (¬ q2 = 0) _ _ rfl (fun c25 => ?_) (fun c25 => ?_)
      · replace h := zk_t h c25
        refine hr.1 4 True _ _ (35, [some (.ref 0), some (.long x1), none, some (.int x3), some (.int 0), some (.ref 1), some (.int (x3 - 1))], [], [cb, sd, ln, pp], D) rfl trivial ?_
        obtain ⟨q4, hc, h⟩ := zk_bind h
        refine loop35 x1 10000 (x3 - 1) D x3 0 q4 hc (fun e6 => ?_)
        clear hc
        refine hr.1 2 True _ _ (68, [some (.ref 0), some (.long x1), none, some (.int x3), some (.int 0), some (.ref 1), some (.int e6)], [.int (zg_i q4 1 1)], [cb, sd, ln, pp], q4) rfl trivial ?_
        exact hr.2.2.2 _ _ _ rfl trivial ⟨(congrArg (fun x => some (Value.int x.1)) (Option.some.inj h)), (congrArg (fun x => (([cb, sd, ln, pp], x.2) : zx_S)) (Option.some.inj h))⟩
      · replace h := zk_f h c25
        refine hr.1 1 True _ _ (29, [some (.ref 0), some (.long x1), none, some (.int x3), some (.int 0), some (.ref 1), none], [.int (-1)], [cb, sd, ln, pp], D) rfl trivial ?_
        exact hr.2.2.2 _ _ _ rfl trivial ⟨(congrArg (fun x => some (Value.int x.1)) (Option.some.inj h)), (congrArg (fun x => (([cb, sd, ln, pp], x.2) : zx_S)) (Option.some.inj h))⟩
set_option maxRecDepth 100000 in
set_option maxHeartbeats 4000000 in
theorem c_g_P_cut_b0 {l : Launch} {E : zx_E} {d : Nat} {cb sd ln pp : Nat} {x1 : Int32} {D : zx_D} {q : Int32 × zx_D} (h : g_P_cut_b0 x1 D = some q) : zx_MC l E 2 (d + 1) [.ref 0, .int x1, .int 0] ([cb, sd, ln, pp], D) (fun v S => v = some (.int q.1) ∧ S = ([cb, sd, ln, pp], q.2)) := by
  refine zx_ofC (K := ck_P_cut) rfl (by decide +kernel) rfl ok_P_cut (Nat.le_of_ble_eq_true rfl) (fun Zp hr => ?_)
  show Zp (0, [some (.ref 0), some (.int x1), some (.int 0), none, none], [], [cb, sd, ln, pp], D)
  rw [g_P_cut_b0] at h
  refine hr.1 2 True _ _ (2, [some (.ref 0), some (.int x1), some (.int 0), none, none], [.int 0, .ref 0], [cb, sd, ln, pp], D) rfl trivial ?_
  obtain ⟨q1, hc, h⟩ := zk_bind h
  refine hr.2.2.1 _ _ _ _ _ (d) rfl (by omega) (c_g_P_rowOf_b0 (l := l) (E := E) (d := d) (cb := cb) (sd := sd) (ln := ln) (pp := pp) hc) (fun v S hq => ?_)
  obtain ⟨rfl, rfl⟩ := hq
  clear hc
  refine hr.1 2 True _ _ (7, [some (.ref 0), some (.int x1), some (.int 0), some (.ref 1), none], [.int x1], [cb, sd, ln, pp], D) rfl trivial ?_
  refine hr.2.1 _ (x1 < 0) _ _ rfl (fun c7 => ?_) (fun c7 => ?_)
  · replace h := zk_t h c7
    refine hr.1 1 True _ _ (19, [some (.ref 0), some (.int x1), some (.int 0), some (.ref 1), none], [.int (-1)], [cb, sd, ln, pp], D) rfl trivial ?_
    exact hr.2.2.2 _ _ _ rfl trivial ⟨(congrArg (fun x => some (Value.int x.1)) (Option.some.inj h)), (congrArg (fun x => (([cb, sd, ln, pp], x.2) : zx_S)) (Option.some.inj h))⟩
  · replace h := zk_f h c7
    refine hr.1 3 True _ _ (15, [some (.ref 0), some (.int x1), some (.int 0), some (.ref 1), none], [.int (zg_i D 1 1), .int x1], [cb, sd, ln, pp], D) rfl trivial ?_
    refine hr.2.1 _ (x1 ≤ zg_i D 1 1) _ _ rfl (fun c15 => ?_) (fun c15 => ?_)
    · replace h := zk_t h c15
      refine hr.1 9 True _ _ (35, [some (.ref 0), some (.int x1), some (.int 0), some (.ref 1), some (.int ((zg_i D 1 1) - x1))], [.int ((zg_i D 1 1) - x1)], [cb, sd, ln, pp], zp_i D 1 1 x1) rfl trivial ?_
      exact hr.2.2.2 _ _ _ rfl trivial ⟨(congrArg (fun x => some (Value.int x.1)) (Option.some.inj h)), (congrArg (fun x => (([cb, sd, ln, pp], x.2) : zx_S)) (Option.some.inj h))⟩
    · replace h := zk_f h c15
      refine hr.1 1 True _ _ (19, [some (.ref 0), some (.int x1), some (.int 0), some (.ref 1), none], [.int (-1)], [cb, sd, ln, pp], D) rfl trivial ?_
      exact hr.2.2.2 _ _ _ rfl trivial ⟨(congrArg (fun x => some (Value.int x.1)) (Option.some.inj h)), (congrArg (fun x => (([cb, sd, ln, pp], x.2) : zx_S)) (Option.some.inj h))⟩
set_option maxRecDepth 100000 in
set_option maxHeartbeats 4000000 in
theorem c_g_Row_byteAt_1 {l : Launch} {E : zx_E} {d : Nat} {cb sd ln pp : Nat} {x1 : Int32} {D : zx_D} {q : Int32} (h : g_Row_byteAt_1 x1 D = some q) : zx_MC l E 26 d [.ref 1, .int x1] ([cb, sd, ln, pp], D) (fun v S => v = some (.int q) ∧ S = ([cb, sd, ln, pp], D)) := by
  refine zx_ofC (K := ck_Row_byteAt) rfl (by decide +kernel) rfl ok_Row_byteAt (Nat.le_of_ble_eq_true rfl) (fun Zp hr => ?_)
  show Zp (0, [some (.ref 1), some (.int x1)], [], [cb, sd, ln, pp], D)
  rw [g_Row_byteAt_1] at h
  refine hr.1 1 True _ _ (1, [some (.ref 1), some (.int x1)], [.int x1], [cb, sd, ln, pp], D) rfl trivial ?_
  refine hr.2.1 _ (x1 < 0) _ _ rfl (fun c1 => ?_) (fun c1 => ?_)
  · replace h := zk_t h c1
    refine hr.1 1 True _ _ (22, [some (.ref 1), some (.int x1)], [.int (-1)], [cb, sd, ln, pp], D) rfl trivial ?_
    exact hr.2.2.2 _ _ _ rfl trivial ⟨(congrArg (fun x => some (Value.int x)) (Option.some.inj h)), rfl⟩
  · replace h := zk_f h c1
    refine hr.1 3 True _ _ (9, [some (.ref 1), some (.int x1)], [.int (zg_i D 1 1), .int x1], [cb, sd, ln, pp], D) rfl trivial ?_
    refine hr.2.1 _ (zg_i D 1 1 ≤ x1) _ _ rfl (fun c9 => ?_) (fun c9 => ?_)
    · replace h := zk_t h c9
      refine hr.1 1 True _ _ (22, [some (.ref 1), some (.int x1)], [.int (-1)], [cb, sd, ln, pp], D) rfl trivial ?_
      exact hr.2.2.2 _ _ _ rfl trivial ⟨(congrArg (fun x => some (Value.int x)) (Option.some.inj h)), rfl⟩
    · replace h := zk_f h c9
      obtain ⟨w2, h⟩ := zk_ck h
      refine hr.1 5 True _ _ (22, [some (.ref 1), some (.int x1)], [.int (zg_i D 2 (zn x1))], [cb, sd, ln, pp], D) rfl ⟨trivial, (zk_vp w2)⟩ ?_
      exact hr.2.2.2 _ _ _ rfl trivial ⟨(congrArg (fun x => some (Value.int x)) (Option.some.inj h)), rfl⟩
set_option maxRecDepth 100000 in
set_option maxHeartbeats 4000000 in
theorem c_g_P_at_b0 {l : Launch} {E : zx_E} {d : Nat} {cb sd ln pp : Nat} {x1 : Int32} {D : zx_D} {q : Int32} (h : g_P_at_b0 x1 D = some q) : zx_MC l E 4 (d + 1) [.ref 0, .int x1, .int 0] ([cb, sd, ln, pp], D) (fun v S => v = some (.int q) ∧ S = ([cb, sd, ln, pp], D)) := by
  refine zx_ofC (K := ck_P_at) rfl (by decide +kernel) rfl ok_P_at (Nat.le_of_ble_eq_true rfl) (fun Zp hr => ?_)
  show Zp (0, [some (.ref 0), some (.int x1), some (.int 0)], [], [cb, sd, ln, pp], D)
  rw [g_P_at_b0] at h
  refine hr.1 2 True _ _ (2, [some (.ref 0), some (.int x1), some (.int 0)], [.int 0, .ref 0], [cb, sd, ln, pp], D) rfl trivial ?_
  obtain ⟨q1, hc, h⟩ := zk_bind h
  refine hr.2.2.1 _ _ _ _ _ (d) rfl (by omega) (c_g_P_rowOf_b0 (l := l) (E := E) (d := d) (cb := cb) (sd := sd) (ln := ln) (pp := pp) hc) (fun v S hq => ?_)
  obtain ⟨rfl, rfl⟩ := hq
  clear hc
  refine hr.1 1 True _ _ (6, [some (.ref 0), some (.int x1), some (.int 0)], [.int x1, .ref 1], [cb, sd, ln, pp], D) rfl trivial ?_
  obtain ⟨q2, hc, h⟩ := zk_bind h
  refine hr.2.2.1 _ _ _ _ _ (d) rfl (by omega) (c_g_Row_byteAt_1 (l := l) (E := E) (d := d) (cb := cb) (sd := sd) (ln := ln) (pp := pp) hc) (fun v S hq => ?_)
  obtain ⟨rfl, rfl⟩ := hq
  clear hc
  exact hr.2.2.2 _ _ _ rfl trivial ⟨(congrArg (fun x => some (Value.int x)) (Option.some.inj h)), rfl⟩
set_option maxRecDepth 100000 in
set_option maxHeartbeats 4000000 in
theorem c_g_P_sumBy_2 {l : Launch} {E : zx_E} {d : Nat} {cb sd ln pp : Nat} {x1 : Int32} {x2 : Int32} {x3 : Int64} {x5 : Int64} {D : zx_D} {q : Int64} (h : g_P_sumBy_2 x1 x2 x3 x5 D = some q) : zx_MC l E 19 d [.ref 2, .int x1, .int x2, .long x3, .long x5] ([cb, sd, ln, pp], D) (fun v S => v = some (.long q) ∧ S = ([cb, sd, ln, pp], D)) := by
  refine zx_ofC (K := ck_P_sumBy) rfl (by decide +kernel) rfl ok_P_sumBy (Nat.le_of_ble_eq_true rfl) (fun Zp hr => ?_)
  show Zp (0, [some (.ref 2), some (.int x1), some (.int x2), some (.long x3), none, some (.long x5), none, none, none, none, none], [], [cb, sd, ln, pp], D)
  have loop25 : ∀ (x2 : Int32) (x3 : Int64) (x5 : Int64) (x9 : Int32) (D : zx_D) (k : Nat) (x7 : Int64) (x10 : Int32) (x1 : Int32) (q : Int64), g_P_sumBy_2_25 x2 x3 x5 x9 D k x7 x10 = some q → (∀ (e10 : Int32), Zp (63, [some (.ref 2), some (.int x1), some (.int x2), some (.long x3), none, some (.long x5), none, some (.long q), none, some (.int x9), some (.int e10)], [], [cb, sd, ln, pp], D)) → Zp (25, [some (.ref 2), some (.int x1), some (.int x2), some (.long x3), none, some (.long x5), none, some (.long x7), none, some (.int x9), some (.int x10)], [], [cb, sd, ln, pp], D) := by
    intro x2 x3 x5 x9 D k
    induction k with
    | zero => intro x7 x10 x1 q h hx; exact (zk_no h).elim
    | succ k ih =>
      intro x7 x10 x1 q h hx
      rw [g_P_sumBy_2_25] at h
      refine hr.1 2 True _ _ (29, [some (.ref 2), some (.int x1), some (.int x2), some (.long x3), none, some (.long x5), none, some (.long x7), none, some (.int x9), some (.int x10)], [.int 8, .int x10], [cb, sd, ln, pp], D) rfl trivial ?_
      refine hr.2.1 _ (8 ≤ x10) _ _ rfl (fun c29 => ?_) (fun c29 => ?_)
      · replace h := zk_t h c29
        replace h := Option.some.inj h
        subst h
        exact hx x10
      · replace h := zk_f h c29
        refine hr.1 4 True _ _ (37, [some (.ref 2), some (.int x1), some (.int x2), some (.long x3), none, some (.long x5), none, some (.long x7), none, some (.int x9), some (.int x10)], [.long 1, .long (x7 &&& 1)], [cb, sd, ln, pp], D) rfl trivial ?_
        refine hr.2.1 _ (¬ x7 &&& 1 = 1) _ _ rfl (fun c37 => ?_) (fun c37 => ?_)
        · replace h := zk_t h c37
          refine hr.1 6 True _ _ (25, [some (.ref 2), some (.int x1), some (.int x2), some (.long x3), none, some (.long x5), none, some (.long (zo_lushr x7 1)), none, some (.int x9), some (.int (x10 + 1))], [], [cb, sd, ln, pp], D) rfl trivial ?_
          exact ih (zo_lushr x7 1) (x10 + 1)  _ _ h hx
        · replace h := zk_f h c37
          refine hr.1 9 True _ _ (25, [some (.ref 2), some (.int x1), some (.int x2), some (.long x3), none, some (.long x5), none, some (.long ((zo_lushr x7 1) ^^^ x5)), none, some (.int x9), some (.int (x10 + 1))], [], [cb, sd, ln, pp], D) rfl trivial ?_
          exact ih ((zo_lushr x7 1) ^^^ x5) (x10 + 1)  _ _ h hx
  have loop6 : ∀ (x2 : Int32) (x3 : Int64) (x5 : Int64) (D : zx_D) (k : Nat) (x7 : Int64) (x9 : Int32) (o10 : Option Value) (x1 : Int32) (q : Int64), g_P_sumBy_2_6 x2 x3 x5 D k x7 x9 = some q → (∀ (e9 : Int32) (o10 : Option Value), Zp (69, [some (.ref 2), some (.int x1), some (.int x2), some (.long x3), none, some (.long x5), none, some (.long q), none, some (.int e9), o10], [], [cb, sd, ln, pp], D)) → Zp (6, [some (.ref 2), some (.int x1), some (.int x2), some (.long x3), none, some (.long x5), none, some (.long x7), none, some (.int x9), o10], [], [cb, sd, ln, pp], D) := by
    intro x2 x3 x5 D k
    induction k with
    | zero => intro x7 x9 o10 x1 q h hx; exact (zk_no h).elim
    | succ k ih =>
      intro x7 x9 o10 x1 q h hx
      rw [g_P_sumBy_2_6] at h
      refine hr.1 2 True _ _ (9, [some (.ref 2), some (.int x1), some (.int x2), some (.long x3), none, some (.long x5), none, some (.long x7), none, some (.int x9), o10], [.int x2, .int x9], [cb, sd, ln, pp], D) rfl trivial ?_
      refine hr.2.1 _ (x2 ≤ x9) _ _ rfl (fun c9 => ?_) (fun c9 => ?_)
      · replace h := zk_t h c9
        replace h := Option.some.inj h
        subst h
        exact hx x9 o10
      · replace h := zk_f h c9
        obtain ⟨w2, h⟩ := zk_ck h
        refine hr.1 9 True _ _ (25, [some (.ref 2), some (.int x1), some (.int x2), some (.long x3), none, some (.long x5), none, some (.long (x7 ^^^ (((zg_i D 2 (zn x9))).toInt64))), none, some (.int x9), some (.int 0)], [], [cb, sd, ln, pp], D) rfl ⟨trivial, (zk_vp w2)⟩ ?_
        obtain ⟨q1, hc, h⟩ := zk_bind h
        refine loop25 x2 x3 x5 x9 D 10000 (x7 ^^^ (((zg_i D 2 (zn x9))).toInt64)) 0 x1 q1 hc (fun e10 => ?_)
        clear hc
        refine hr.1 2 True _ _ (6, [some (.ref 2), some (.int x1), some (.int x2), some (.long x3), none, some (.long x5), none, some (.long q1), none, some (.int (x9 + 1)), some (.int e10)], [], [cb, sd, ln, pp], D) rfl trivial ?_
        exact ih q1 (x9 + 1)  _ _ _ h hx
  rw [g_P_sumBy_2] at h
  refine hr.1 4 True _ _ (6, [some (.ref 2), some (.int x1), some (.int x2), some (.long x3), none, some (.long x5), none, some (.long x3), none, some (.int x1), none], [], [cb, sd, ln, pp], D) rfl trivial ?_
  obtain ⟨q2, hc, h⟩ := zk_bind h
  refine loop6 x2 x3 x5 D 10000 x3 x1 none x1 q2 hc (fun e9 o10 => ?_)
  clear hc
  refine hr.1 3 True _ _ (73, [some (.ref 2), some (.int x1), some (.int x2), some (.long x3), none, some (.long x5), none, some (.long q2), none, some (.int e9), o10], [.long (q2 ^^^ x3)], [cb, sd, ln, pp], D) rfl trivial ?_
  exact hr.2.2.2 _ _ _ rfl trivial ⟨(congrArg (fun x => some (Value.long x)) (Option.some.inj h)), rfl⟩
set_option maxRecDepth 100000 in
set_option maxHeartbeats 4000000 in
theorem c_g_P_sumFour_2 {l : Launch} {E : zx_E} {d : Nat} {cb sd ln pp : Nat} {x1 : Int32} {x2 : Int32} {D : zx_D} {q : Int64} (h : g_P_sumFour_2 x1 x2 D = some q) : zx_MC l E 17 (d + 1) [.ref 2, .int x1, .int x2] ([cb, sd, ln, pp], D) (fun v S => v = some (.long q) ∧ S = ([cb, sd, ln, pp], D)) := by
  refine zx_ofC (K := ck_P_sumFour) rfl (by decide +kernel) rfl ok_P_sumFour (Nat.le_of_ble_eq_true rfl) (fun Zp hr => ?_)
  show Zp (0, [some (.ref 2), some (.int x1), some (.int x2)], [], [cb, sd, ln, pp], D)
  rw [g_P_sumFour_2] at h
  refine hr.1 5 True _ _ (9, [some (.ref 2), some (.int x1), some (.int x2)], [.long 3988292384, .long 4294967295, .int x2, .int x1, .ref 2], [cb, sd, ln, pp], D) rfl trivial ?_
  obtain ⟨q1, hc, h⟩ := zk_bind h
  refine hr.2.2.1 _ _ _ _ _ (d) rfl (by omega) (c_g_P_sumBy_2 (l := l) (E := E) (d := d) (cb := cb) (sd := sd) (ln := ln) (pp := pp) hc) (fun v S hq => ?_)
  obtain ⟨rfl, rfl⟩ := hq
  clear hc
  exact hr.2.2.2 _ _ _ rfl trivial ⟨(congrArg (fun x => some (Value.long x)) (Option.some.inj h)), rfl⟩
set_option maxRecDepth 100000 in
set_option maxHeartbeats 4000000 in
theorem c_g_P_sum_b0 {l : Launch} {E : zx_E} {d : Nat} {cb sd ln pp : Nat} {D : zx_D} {q : Int64} (h : g_P_sum_b0 D = some q) : zx_MC l E 12 (d + 2) [.ref 0, .int 0] ([cb, sd, ln, pp], D) (fun v S => v = some (.long q) ∧ S = ([cb, sd, ln, pp], D)) := by
  refine zx_ofC (K := ck_P_sum) rfl (by decide +kernel) rfl ok_P_sum (Nat.le_of_ble_eq_true rfl) (fun Zp hr => ?_)
  show Zp (0, [some (.ref 0), some (.int 0)], [], [cb, sd, ln, pp], D)
  rw [g_P_sum_b0] at h
  refine hr.1 1 True _ _ (1, [some (.ref 0), some (.int 0)], [.int 0], [cb, sd, ln, pp], D) rfl trivial ?_
  refine hr.2.1 _ ((0 : Int32) = 0) _ _ rfl (fun _ => ?_) (fun h => absurd (by decide) h)
  refine hr.1 7 True _ _ (40, [some (.ref 0), some (.int 0)], [.int (zg_i D 1 1), .int 0, .ref 2], [cb, sd, ln, pp], D) rfl trivial ?_
  obtain ⟨q1, hc, h⟩ := zk_bind h
  refine hr.2.2.1 _ _ _ _ _ (d + 1) rfl (by omega) (c_g_P_sumFour_2 (l := l) (E := E) (d := d) (cb := cb) (sd := sd) (ln := ln) (pp := pp) hc) (fun v S hq => ?_)
  obtain ⟨rfl, rfl⟩ := hq
  clear hc
  exact hr.2.2.2 _ _ _ rfl trivial ⟨(congrArg (fun x => some (Value.long x)) (Option.some.inj h)), rfl⟩
set_option maxRecDepth 100000 in
set_option maxHeartbeats 4000000 in
theorem c_g_P_rowOf_b1 {l : Launch} {E : zx_E} {d : Nat} {cb sd ln pp : Nat} {D : zx_D} {q : Unit} (h : g_P_rowOf_b1 D = some q) : zx_MC l E 13 d [.ref 0, .int 1] ([cb, sd, ln, pp], D) (fun v S => v = some (.ref 3) ∧ S = ([cb, sd, ln, pp], D)) := by
  refine zx_ofC (K := ck_P_rowOf) rfl (by decide +kernel) rfl ok_P_rowOf (Nat.le_of_ble_eq_true rfl) (fun Zp hr => ?_)
  show Zp (0, [some (.ref 0), some (.int 1)], [], [cb, sd, ln, pp], D)
  rw [g_P_rowOf_b1] at h
  refine hr.1 1 True _ _ (1, [some (.ref 0), some (.int 1)], [.int 1], [cb, sd, ln, pp], D) rfl trivial ?_
  refine hr.2.1 _ ((1 : Int32) = 0) _ _ rfl (fun h => absurd h (by decide)) (fun _ => ?_)
  refine hr.1 3 True _ _ (15, [some (.ref 0), some (.int 1)], [.ref 3], [cb, sd, ln, pp], D) rfl trivial ?_
  exact hr.2.2.2 _ _ _ rfl trivial ⟨rfl, rfl⟩
set_option maxRecDepth 100000 in
set_option maxHeartbeats 4000000 in
theorem c_g_Row_hasRoom_3 {l : Launch} {E : zx_E} {d : Nat} {cb sd ln pp : Nat} {x1 : Int32} {D : zx_D} {q : Int32} (h : g_Row_hasRoom_3 x1 D = some q) : zx_MC l E 21 d [.ref 3, .int x1] ([cb, sd, ln, pp], D) (fun v S => v = some (.int q) ∧ S = ([cb, sd, ln, pp], D)) := by
  refine zx_ofC (K := ck_Row_hasRoom) rfl (by decide +kernel) rfl ok_Row_hasRoom (Nat.le_of_ble_eq_true rfl) (fun Zp hr => ?_)
  show Zp (0, [some (.ref 3), some (.int x1)], [], [cb, sd, ln, pp], D)
  rw [g_Row_hasRoom_3] at h
  refine hr.1 7 True _ _ (11, [some (.ref 3), some (.int x1)], [.int (640 - (zg_i D 3 1)), .int x1], [cb, sd, ln, pp], D) rfl trivial ?_
  refine hr.2.1 _ (640 - (zg_i D 3 1) < x1) _ _ rfl (fun c11 => ?_) (fun c11 => ?_)
  · replace h := zk_t h c11
    refine hr.1 1 True _ _ (19, [some (.ref 3), some (.int x1)], [.int 0], [cb, sd, ln, pp], D) rfl trivial ?_
    exact hr.2.2.2 _ _ _ rfl (Or.inl rfl) ⟨(congrArg (fun x => some (Value.int x)) (Option.some.inj h)), rfl⟩
  · replace h := zk_f h c11
    refine hr.1 2 True _ _ (19, [some (.ref 3), some (.int x1)], [.int 1], [cb, sd, ln, pp], D) rfl trivial ?_
    exact hr.2.2.2 _ _ _ rfl (Or.inr rfl) ⟨(congrArg (fun x => some (Value.int x)) (Option.some.inj h)), rfl⟩
set_option maxRecDepth 100000 in
set_option maxHeartbeats 4000000 in
theorem c_g_Row_append_3 {l : Launch} {E : zx_E} {d : Nat} {cb sd ln pp : Nat} {x1 : Int32} {D : zx_D} {q : zx_D} (h : g_Row_append_3 x1 D = some q) : zx_MC l E 22 d [.ref 3, .int x1] ([cb, sd, ln, pp], D) (fun v S => v = none ∧ S = ([cb, sd, ln, pp], q)) := by
  refine zx_ofC (K := ck_Row_append) rfl (by decide +kernel) rfl ok_Row_append (Nat.le_of_ble_eq_true rfl) (fun Zp hr => ?_)
  show Zp (0, [some (.ref 3), some (.int x1)], [], [cb, sd, ln, pp], D)
  rw [g_Row_append_3] at h
  refine hr.1 5 True _ _ (9, [some (.ref 3), some (.int x1)], [.int 640, .int (zg_i D 3 1)], [cb, sd, ln, pp], D) rfl trivial ?_
  refine hr.2.1 _ (zg_i D 3 1 < 640) _ _ rfl (fun c9 => ?_) (fun c9 => ?_)
  · replace h := zk_t h c9
    obtain ⟨w2, h⟩ := zk_ck h
    refine hr.1 12 True _ _ (38, [some (.ref 3), some (.int x1)], [], [cb, sd, ln, pp], zp_i (zp_i D 4 (zn (zg_i D 3 1)) x1) 3 1 ((zg_i D 3 1) + 1)) rfl ⟨trivial, (zk_vp w2)⟩ ?_
    exact hr.2.2.2 _ _ _ rfl trivial ⟨rfl, (congrArg (fun x => (([cb, sd, ln, pp], x) : zx_S)) (Option.some.inj h))⟩
  · replace h := zk_f h c9
    refine hr.1 3 True _ _ (17, [some (.ref 3), some (.int x1)], [], [cb, sd, ln, pp], zp_i D 3 2 1) rfl ⟨trivial, (Or.inr rfl)⟩ ?_
    exact hr.2.2.2 _ _ _ rfl trivial ⟨rfl, (congrArg (fun x => (([cb, sd, ln, pp], x) : zx_S)) (Option.some.inj h))⟩
set_option maxRecDepth 100000 in
set_option maxHeartbeats 4000000 in
theorem c_g_P_feed_b1 {l : Launch} {E : zx_E} {d : Nat} {cb sd ln pp : Nat} {x1 : Int64} {x3 : Int32} {D : zx_D} {q : Int32 × zx_D} (h : g_P_feed_b1 x1 x3 D = some q) : zx_MC l E 0 (d + 1) [.ref 0, .long x1, .int x3, .int 1] ([cb, sd, ln, pp], D) (fun v S => v = some (.int q.1) ∧ S = ([cb, sd, ln, pp], q.2)) := by
  refine zx_ofC (K := ck_P_feed) rfl (by decide +kernel) rfl ok_P_feed (Nat.le_of_ble_eq_true rfl) (fun Zp hr => ?_)
  show Zp (0, [some (.ref 0), some (.long x1), none, some (.int x3), some (.int 1), none, none], [], [cb, sd, ln, pp], D)
  have loop35 : ∀ (x1 : Int64) (k : Nat) (x6 : Int32) (D : zx_D) (x3 : Int32) (x4 : Int32) (q : zx_D), g_P_feed_b1_35 x1 k x6 D = some q → (∀ (e6 : Int32), Zp (63, [some (.ref 0), some (.long x1), none, some (.int x3), some (.int x4), some (.ref 3), some (.int e6)], [], [cb, sd, ln, pp], q)) → Zp (35, [some (.ref 0), some (.long x1), none, some (.int x3), some (.int x4), some (.ref 3), some (.int x6)], [], [cb, sd, ln, pp], D) := by
    intro x1 k
    induction k with
    | zero => intro x6 D x3 x4 q h hx; exact (zk_no h).elim
    | succ k ih =>
      intro x6 D x3 x4 q h hx
      rw [g_P_feed_b1_35] at h
      refine hr.1 1 True _ _ (37, [some (.ref 0), some (.long x1), none, some (.int x3), some (.int x4), some (.ref 3), some (.int x6)], [.int x6], [cb, sd, ln, pp], D) rfl trivial ?_
      refine hr.2.1 _ (x6 < 0) _ _ rfl (fun c37 => ?_) (fun c37 => ?_)
      · replace h := zk_t h c37
        replace h := Option.some.inj h
        subst h
        exact hx x6
      · replace h := zk_f h c37
        refine hr.1 9 True _ _ (54, [some (.ref 0), some (.long x1), none, some (.int x3), some (.int x4), some (.ref 3), some (.int x6)], [.int ((((zo_lushr x1 (8 * x6))).toInt32) &&& 255), .ref 3], [cb, sd, ln, pp], D) rfl trivial ?_
        obtain ⟨q3, hc, h⟩ := zk_bind h
        refine hr.2.2.1 _ _ _ _ _ (d) rfl (by omega) (c_g_Row_append_3 (l := l) (E := E) (d := d) (cb := cb) (sd := sd) (ln := ln) (pp := pp) hc) (fun v S hq => ?_)
        obtain ⟨rfl, rfl⟩ := hq
        clear hc
        refine hr.1 2 True _ _ (35, [some (.ref 0), some (.long x1), none, some (.int x3), some (.int x4), some (.ref 3), some (.int (x6 + (-1)))], [], [cb, sd, ln, pp], q3) rfl trivial ?_
        exact ih (x6 + (-1)) q3 _ _ _ h hx
  rw [g_P_feed_b1] at h
  refine hr.1 2 True _ _ (3, [some (.ref 0), some (.long x1), none, some (.int x3), some (.int 1), none, none], [.int 1, .ref 0], [cb, sd, ln, pp], D) rfl trivial ?_
  obtain ⟨q1, hc, h⟩ := zk_bind h
  refine hr.2.2.1 _ _ _ _ _ (d) rfl (by omega) (c_g_P_rowOf_b1 (l := l) (E := E) (d := d) (cb := cb) (sd := sd) (ln := ln) (pp := pp) hc) (fun v S hq => ?_)
  obtain ⟨rfl, rfl⟩ := hq
  clear hc
  refine hr.1 3 True _ _ (10, [some (.ref 0), some (.long x1), none, some (.int x3), some (.int 1), some (.ref 3), none], [.int 1, .int x3], [cb, sd, ln, pp], D) rfl trivial ?_
  refine hr.2.1 _ (x3 < 1) _ _ rfl (fun c10 => ?_) (fun c10 => ?_)
  · replace h := zk_t h c10
    refine hr.1 1 True _ _ (29, [some (.ref 0), some (.long x1), none, some (.int x3), some (.int 1), some (.ref 3), none], [.int (-1)], [cb, sd, ln, pp], D) rfl trivial ?_
    exact hr.2.2.2 _ _ _ rfl trivial ⟨(congrArg (fun x => some (Value.int x.1)) (Option.some.inj h)), (congrArg (fun x => (([cb, sd, ln, pp], x.2) : zx_S)) (Option.some.inj h))⟩
  · replace h := zk_f h c10
    refine hr.1 2 True _ _ (16, [some (.ref 0), some (.long x1), none, some (.int x3), some (.int 1), some (.ref 3), none], [.int 8, .int x3], [cb, sd, ln, pp], D) rfl trivial ?_
    refine hr.2.1 _ (8 < x3) _ _ rfl (fun c16 => ?_) (fun c16 => ?_)
    · replace h := zk_t h c16
      refine hr.1 1 True _ _ (29, [some (.ref 0), some (.long x1), none, some (.int x3), some (.int 1), some (.ref 3), none], [.int (-1)], [cb, sd, ln, pp], D) rfl trivial ?_
      exact hr.2.2.2 _ _ _ rfl trivial ⟨(congrArg (fun x => some (Value.int x.1)) (Option.some.inj h)), (congrArg (fun x => (([cb, sd, ln, pp], x.2) : zx_S)) (Option.some.inj h))⟩
    · replace h := zk_f h c16
      refine hr.1 2 True _ _ (22, [some (.ref 0), some (.long x1), none, some (.int x3), some (.int 1), some (.ref 3), none], [.int x3, .ref 3], [cb, sd, ln, pp], D) rfl trivial ?_
      obtain ⟨q2, hc, h⟩ := zk_bind h
      refine hr.2.2.1 _ _ _ _ _ (d) rfl (by omega) (c_g_Row_hasRoom_3 (l := l) (E := E) (d := d) (cb := cb) (sd := sd) (ln := ln) (pp := pp) hc) (fun v S hq => ?_)
      obtain ⟨rfl, rfl⟩ := hq
      clear hc
      refine hr.2.1 _ (¬ q2 = 0) _ _ rfl (fun c25 => ?_) (fun c25 => ?_)
      · replace h := zk_t h c25
        refine hr.1 4 True _ _ (35, [some (.ref 0), some (.long x1), none, some (.int x3), some (.int 1), some (.ref 3), some (.int (x3 - 1))], [], [cb, sd, ln, pp], D) rfl trivial ?_
        obtain ⟨q4, hc, h⟩ := zk_bind h
        refine loop35 x1 10000 (x3 - 1) D x3 1 q4 hc (fun e6 => ?_)
        clear hc
        refine hr.1 2 True _ _ (68, [some (.ref 0), some (.long x1), none, some (.int x3), some (.int 1), some (.ref 3), some (.int e6)], [.int (zg_i q4 3 1)], [cb, sd, ln, pp], q4) rfl trivial ?_
        exact hr.2.2.2 _ _ _ rfl trivial ⟨(congrArg (fun x => some (Value.int x.1)) (Option.some.inj h)), (congrArg (fun x => (([cb, sd, ln, pp], x.2) : zx_S)) (Option.some.inj h))⟩
      · replace h := zk_f h c25
        refine hr.1 1 True _ _ (29, [some (.ref 0), some (.long x1), none, some (.int x3), some (.int 1), some (.ref 3), none], [.int (-1)], [cb, sd, ln, pp], D) rfl trivial ?_
        exact hr.2.2.2 _ _ _ rfl trivial ⟨(congrArg (fun x => some (Value.int x.1)) (Option.some.inj h)), (congrArg (fun x => (([cb, sd, ln, pp], x.2) : zx_S)) (Option.some.inj h))⟩
set_option maxRecDepth 100000 in
set_option maxHeartbeats 4000000 in
theorem c_g_P_cut_b1 {l : Launch} {E : zx_E} {d : Nat} {cb sd ln pp : Nat} {x1 : Int32} {D : zx_D} {q : Int32 × zx_D} (h : g_P_cut_b1 x1 D = some q) : zx_MC l E 2 (d + 1) [.ref 0, .int x1, .int 1] ([cb, sd, ln, pp], D) (fun v S => v = some (.int q.1) ∧ S = ([cb, sd, ln, pp], q.2)) := by
  refine zx_ofC (K := ck_P_cut) rfl (by decide +kernel) rfl ok_P_cut (Nat.le_of_ble_eq_true rfl) (fun Zp hr => ?_)
  show Zp (0, [some (.ref 0), some (.int x1), some (.int 1), none, none], [], [cb, sd, ln, pp], D)
  rw [g_P_cut_b1] at h
  refine hr.1 2 True _ _ (2, [some (.ref 0), some (.int x1), some (.int 1), none, none], [.int 1, .ref 0], [cb, sd, ln, pp], D) rfl trivial ?_
  obtain ⟨q1, hc, h⟩ := zk_bind h
  refine hr.2.2.1 _ _ _ _ _ (d) rfl (by omega) (c_g_P_rowOf_b1 (l := l) (E := E) (d := d) (cb := cb) (sd := sd) (ln := ln) (pp := pp) hc) (fun v S hq => ?_)
  obtain ⟨rfl, rfl⟩ := hq
  clear hc
  refine hr.1 2 True _ _ (7, [some (.ref 0), some (.int x1), some (.int 1), some (.ref 3), none], [.int x1], [cb, sd, ln, pp], D) rfl trivial ?_
  refine hr.2.1 _ (x1 < 0) _ _ rfl (fun c7 => ?_) (fun c7 => ?_)
  · replace h := zk_t h c7
    refine hr.1 1 True _ _ (19, [some (.ref 0), some (.int x1), some (.int 1), some (.ref 3), none], [.int (-1)], [cb, sd, ln, pp], D) rfl trivial ?_
    exact hr.2.2.2 _ _ _ rfl trivial ⟨(congrArg (fun x => some (Value.int x.1)) (Option.some.inj h)), (congrArg (fun x => (([cb, sd, ln, pp], x.2) : zx_S)) (Option.some.inj h))⟩
  · replace h := zk_f h c7
    refine hr.1 3 True _ _ (15, [some (.ref 0), some (.int x1), some (.int 1), some (.ref 3), none], [.int (zg_i D 3 1), .int x1], [cb, sd, ln, pp], D) rfl trivial ?_
    refine hr.2.1 _ (x1 ≤ zg_i D 3 1) _ _ rfl (fun c15 => ?_) (fun c15 => ?_)
    · replace h := zk_t h c15
      refine hr.1 9 True _ _ (35, [some (.ref 0), some (.int x1), some (.int 1), some (.ref 3), some (.int ((zg_i D 3 1) - x1))], [.int ((zg_i D 3 1) - x1)], [cb, sd, ln, pp], zp_i D 3 1 x1) rfl trivial ?_
      exact hr.2.2.2 _ _ _ rfl trivial ⟨(congrArg (fun x => some (Value.int x.1)) (Option.some.inj h)), (congrArg (fun x => (([cb, sd, ln, pp], x.2) : zx_S)) (Option.some.inj h))⟩
    · replace h := zk_f h c15
      refine hr.1 1 True _ _ (19, [some (.ref 0), some (.int x1), some (.int 1), some (.ref 3), none], [.int (-1)], [cb, sd, ln, pp], D) rfl trivial ?_
      exact hr.2.2.2 _ _ _ rfl trivial ⟨(congrArg (fun x => some (Value.int x.1)) (Option.some.inj h)), (congrArg (fun x => (([cb, sd, ln, pp], x.2) : zx_S)) (Option.some.inj h))⟩
set_option maxRecDepth 100000 in
set_option maxHeartbeats 4000000 in
theorem c_g_Row_byteAt_3 {l : Launch} {E : zx_E} {d : Nat} {cb sd ln pp : Nat} {x1 : Int32} {D : zx_D} {q : Int32} (h : g_Row_byteAt_3 x1 D = some q) : zx_MC l E 26 d [.ref 3, .int x1] ([cb, sd, ln, pp], D) (fun v S => v = some (.int q) ∧ S = ([cb, sd, ln, pp], D)) := by
  refine zx_ofC (K := ck_Row_byteAt) rfl (by decide +kernel) rfl ok_Row_byteAt (Nat.le_of_ble_eq_true rfl) (fun Zp hr => ?_)
  show Zp (0, [some (.ref 3), some (.int x1)], [], [cb, sd, ln, pp], D)
  rw [g_Row_byteAt_3] at h
  refine hr.1 1 True _ _ (1, [some (.ref 3), some (.int x1)], [.int x1], [cb, sd, ln, pp], D) rfl trivial ?_
  refine hr.2.1 _ (x1 < 0) _ _ rfl (fun c1 => ?_) (fun c1 => ?_)
  · replace h := zk_t h c1
    refine hr.1 1 True _ _ (22, [some (.ref 3), some (.int x1)], [.int (-1)], [cb, sd, ln, pp], D) rfl trivial ?_
    exact hr.2.2.2 _ _ _ rfl trivial ⟨(congrArg (fun x => some (Value.int x)) (Option.some.inj h)), rfl⟩
  · replace h := zk_f h c1
    refine hr.1 3 True _ _ (9, [some (.ref 3), some (.int x1)], [.int (zg_i D 3 1), .int x1], [cb, sd, ln, pp], D) rfl trivial ?_
    refine hr.2.1 _ (zg_i D 3 1 ≤ x1) _ _ rfl (fun c9 => ?_) (fun c9 => ?_)
    · replace h := zk_t h c9
      refine hr.1 1 True _ _ (22, [some (.ref 3), some (.int x1)], [.int (-1)], [cb, sd, ln, pp], D) rfl trivial ?_
      exact hr.2.2.2 _ _ _ rfl trivial ⟨(congrArg (fun x => some (Value.int x)) (Option.some.inj h)), rfl⟩
    · replace h := zk_f h c9
      obtain ⟨w2, h⟩ := zk_ck h
      refine hr.1 5 True _ _ (22, [some (.ref 3), some (.int x1)], [.int (zg_i D 4 (zn x1))], [cb, sd, ln, pp], D) rfl ⟨trivial, (zk_vp w2)⟩ ?_
      exact hr.2.2.2 _ _ _ rfl trivial ⟨(congrArg (fun x => some (Value.int x)) (Option.some.inj h)), rfl⟩
set_option maxRecDepth 100000 in
set_option maxHeartbeats 4000000 in
theorem c_g_P_at_b1 {l : Launch} {E : zx_E} {d : Nat} {cb sd ln pp : Nat} {x1 : Int32} {D : zx_D} {q : Int32} (h : g_P_at_b1 x1 D = some q) : zx_MC l E 4 (d + 1) [.ref 0, .int x1, .int 1] ([cb, sd, ln, pp], D) (fun v S => v = some (.int q) ∧ S = ([cb, sd, ln, pp], D)) := by
  refine zx_ofC (K := ck_P_at) rfl (by decide +kernel) rfl ok_P_at (Nat.le_of_ble_eq_true rfl) (fun Zp hr => ?_)
  show Zp (0, [some (.ref 0), some (.int x1), some (.int 1)], [], [cb, sd, ln, pp], D)
  rw [g_P_at_b1] at h
  refine hr.1 2 True _ _ (2, [some (.ref 0), some (.int x1), some (.int 1)], [.int 1, .ref 0], [cb, sd, ln, pp], D) rfl trivial ?_
  obtain ⟨q1, hc, h⟩ := zk_bind h
  refine hr.2.2.1 _ _ _ _ _ (d) rfl (by omega) (c_g_P_rowOf_b1 (l := l) (E := E) (d := d) (cb := cb) (sd := sd) (ln := ln) (pp := pp) hc) (fun v S hq => ?_)
  obtain ⟨rfl, rfl⟩ := hq
  clear hc
  refine hr.1 1 True _ _ (6, [some (.ref 0), some (.int x1), some (.int 1)], [.int x1, .ref 3], [cb, sd, ln, pp], D) rfl trivial ?_
  obtain ⟨q2, hc, h⟩ := zk_bind h
  refine hr.2.2.1 _ _ _ _ _ (d) rfl (by omega) (c_g_Row_byteAt_3 (l := l) (E := E) (d := d) (cb := cb) (sd := sd) (ln := ln) (pp := pp) hc) (fun v S hq => ?_)
  obtain ⟨rfl, rfl⟩ := hq
  clear hc
  exact hr.2.2.2 _ _ _ rfl trivial ⟨(congrArg (fun x => some (Value.int x)) (Option.some.inj h)), rfl⟩
set_option maxRecDepth 100000 in
set_option maxHeartbeats 4000000 in
theorem c_g_P_sumEight_2 {l : Launch} {E : zx_E} {d : Nat} {cb sd ln pp : Nat} {x1 : Int32} {x2 : Int32} {D : zx_D} {q : Int64} (h : g_P_sumEight_2 x1 x2 D = some q) : zx_MC l E 18 (d + 1) [.ref 2, .int x1, .int x2] ([cb, sd, ln, pp], D) (fun v S => v = some (.long q) ∧ S = ([cb, sd, ln, pp], D)) := by
  refine zx_ofC (K := ck_P_sumEight) rfl (by decide +kernel) rfl ok_P_sumEight (Nat.le_of_ble_eq_true rfl) (fun Zp hr => ?_)
  show Zp (0, [some (.ref 2), some (.int x1), some (.int x2)], [], [cb, sd, ln, pp], D)
  rw [g_P_sumEight_2] at h
  refine hr.1 5 True _ _ (9, [some (.ref 2), some (.int x1), some (.int x2)], [.long (-3932672073523589310), .long (-1), .int x2, .int x1, .ref 2], [cb, sd, ln, pp], D) rfl trivial ?_
  obtain ⟨q1, hc, h⟩ := zk_bind h
  refine hr.2.2.1 _ _ _ _ _ (d) rfl (by omega) (c_g_P_sumBy_2 (l := l) (E := E) (d := d) (cb := cb) (sd := sd) (ln := ln) (pp := pp) hc) (fun v S hq => ?_)
  obtain ⟨rfl, rfl⟩ := hq
  clear hc
  exact hr.2.2.2 _ _ _ rfl trivial ⟨(congrArg (fun x => some (Value.long x)) (Option.some.inj h)), rfl⟩
set_option maxRecDepth 100000 in
set_option maxHeartbeats 4000000 in
theorem c_g_P_sum_b1 {l : Launch} {E : zx_E} {d : Nat} {cb sd ln pp : Nat} {D : zx_D} {q : Int64} (h : g_P_sum_b1 D = some q) : zx_MC l E 12 (d + 2) [.ref 0, .int 1] ([cb, sd, ln, pp], D) (fun v S => v = some (.long q) ∧ S = ([cb, sd, ln, pp], D)) := by
  refine zx_ofC (K := ck_P_sum) rfl (by decide +kernel) rfl ok_P_sum (Nat.le_of_ble_eq_true rfl) (fun Zp hr => ?_)
  show Zp (0, [some (.ref 0), some (.int 1)], [], [cb, sd, ln, pp], D)
  rw [g_P_sum_b1] at h
  refine hr.1 1 True _ _ (1, [some (.ref 0), some (.int 1)], [.int 1], [cb, sd, ln, pp], D) rfl trivial ?_
  refine hr.2.1 _ ((1 : Int32) = 0) _ _ rfl (fun h => absurd h (by decide)) (fun _ => ?_)
  refine hr.1 7 True _ _ (19, [some (.ref 0), some (.int 1)], [.int (zg_i D 1 1), .int 0, .ref 2], [cb, sd, ln, pp], D) rfl trivial ?_
  obtain ⟨q1, hc, h⟩ := zk_bind h
  refine hr.2.2.1 _ _ _ _ _ (d + 1) rfl (by omega) (c_g_P_sumEight_2 (l := l) (E := E) (d := d) (cb := cb) (sd := sd) (ln := ln) (pp := pp) hc) (fun v S hq => ?_)
  obtain ⟨rfl, rfl⟩ := hq
  clear hc
  refine hr.1 1 True _ _ (43, [some (.ref 0), some (.int 1)], [.long q1], [cb, sd, ln, pp], D) rfl trivial ?_
  exact hr.2.2.2 _ _ _ rfl trivial ⟨(congrArg (fun x => some (Value.long x)) (Option.some.inj h)), rfl⟩
set_option maxRecDepth 100000 in
set_option maxHeartbeats 4000000 in
theorem c_g_Row_byteBack_1 {l : Launch} {E : zx_E} {d : Nat} {cb sd ln pp : Nat} {x1 : Int32} {x2 : Int64} {D : zx_D} {q : Int32} (h : g_Row_byteBack_1 x1 x2 D = some q) : zx_MC l E 27 d [.ref 1, .int x1, .long x2] ([cb, sd, ln, pp], D) (fun v S => v = some (.int q) ∧ S = ([cb, sd, ln, pp], D)) := by
  refine zx_ofC (K := ck_Row_byteBack) rfl (by decide +kernel) rfl ok_Row_byteBack (Nat.le_of_ble_eq_true rfl) (fun Zp hr => ?_)
  show Zp (0, [some (.ref 1), some (.int x1), some (.long x2), none], [], [cb, sd, ln, pp], D)
  rw [g_Row_byteBack_1] at h
  refine hr.1 2 True _ _ (2, [some (.ref 1), some (.int x1), some (.long x2), none], [.long 1, .long x2], [cb, sd, ln, pp], D) rfl trivial ?_
  refine hr.2.1 _ (x2 < 1) _ _ rfl (fun c2 => ?_) (fun c2 => ?_)
  · replace h := zk_t h c2
    refine hr.1 1 True _ _ (23, [some (.ref 1), some (.int x1), some (.long x2), none], [.int 0], [cb, sd, ln, pp], D) rfl trivial ?_
    exact hr.2.2.2 _ _ _ rfl trivial ⟨(congrArg (fun x => some (Value.int x)) (Option.some.inj h)), rfl⟩
  · replace h := zk_f h c2
    refine hr.1 3 True _ _ (9, [some (.ref 1), some (.int x1), some (.long x2), none], [.long ((x1).toInt64), .long x2], [cb, sd, ln, pp], D) rfl trivial ?_
    refine hr.2.1 _ ((x1).toInt64 < x2) _ _ rfl (fun c9 => ?_) (fun c9 => ?_)
    · replace h := zk_t h c9
      refine hr.1 1 True _ _ (23, [some (.ref 1), some (.int x1), some (.long x2), none], [.int 0], [cb, sd, ln, pp], D) rfl trivial ?_
      exact hr.2.2.2 _ _ _ rfl trivial ⟨(congrArg (fun x => some (Value.int x)) (Option.some.inj h)), rfl⟩
    · replace h := zk_f h c9
      refine hr.1 4 True _ _ (19, [some (.ref 1), some (.int x1), some (.long x2), none], [.int 400, .int x1], [cb, sd, ln, pp], D) rfl trivial ?_
      refine hr.2.1 _ (x1 ≤ 400) _ _ rfl (fun c19 => ?_) (fun c19 => ?_)
      · replace h := zk_t h c19
        obtain ⟨w2, h⟩ := zk_ck h
        refine hr.1 7 True _ _ (33, [some (.ref 1), some (.int x1), some (.long x2), none], [.int (zg_i D 2 (zn (x1 - ((x2).toInt32))))], [cb, sd, ln, pp], D) rfl ⟨trivial, (zk_vp w2)⟩ ?_
        exact hr.2.2.2 _ _ _ rfl trivial ⟨(congrArg (fun x => some (Value.int x)) (Option.some.inj h)), rfl⟩
      · replace h := zk_f h c19
        refine hr.1 1 True _ _ (23, [some (.ref 1), some (.int x1), some (.long x2), none], [.int 0], [cb, sd, ln, pp], D) rfl trivial ?_
        exact hr.2.2.2 _ _ _ rfl trivial ⟨(congrArg (fun x => some (Value.int x)) (Option.some.inj h)), rfl⟩
set_option maxRecDepth 100000 in
set_option maxHeartbeats 4000000 in
theorem c_g_Row_repeat_1 {l : Launch} {E : zx_E} {d : Nat} {cb sd ln pp : Nat} {x1 : Int64} {x3 : Int32} {D : zx_D} {q : zx_D} (h : g_Row_repeat_1 x1 x3 D = some q) : zx_MC l E 25 (d + 1) [.ref 1, .long x1, .int x3] ([cb, sd, ln, pp], D) (fun v S => v = none ∧ S = ([cb, sd, ln, pp], q)) := by
  refine zx_ofC (K := ck_Row_repeat) rfl (by decide +kernel) rfl ok_Row_repeat (Nat.le_of_ble_eq_true rfl) (fun Zp hr => ?_)
  show Zp (0, [some (.ref 1), some (.long x1), none, some (.int x3), none], [], [cb, sd, ln, pp], D)
  have loop3 : ∀ (x1 : Int64) (x3 : Int32) (k : Nat) (x4 : Int32) (D : zx_D) (q : zx_D), g_Row_repeat_1_3 x1 x3 k x4 D = some q → (∀ (e4 : Int32), Zp (28, [some (.ref 1), some (.long x1), none, some (.int x3), some (.int e4)], [], [cb, sd, ln, pp], q)) → Zp (3, [some (.ref 1), some (.long x1), none, some (.int x3), some (.int x4)], [], [cb, sd, ln, pp], D) := by
    intro x1 x3 k
    induction k with
    | zero => intro x4 D q h hx; exact (zk_no h).elim
    | succ k ih =>
      intro x4 D q h hx
      rw [g_Row_repeat_1_3] at h
      refine hr.1 2 True _ _ (6, [some (.ref 1), some (.long x1), none, some (.int x3), some (.int x4)], [.int x3, .int x4], [cb, sd, ln, pp], D) rfl trivial ?_
      refine hr.2.1 _ (x3 ≤ x4) _ _ rfl (fun c6 => ?_) (fun c6 => ?_)
      · replace h := zk_t h c6
        replace h := Option.some.inj h
        subst h
        exact hx x4
      · replace h := zk_f h c6
        refine hr.1 5 True _ _ (16, [some (.ref 1), some (.long x1), none, some (.int x3), some (.int x4)], [.long x1, .int (zg_i D 1 1), .ref 1, .ref 1], [cb, sd, ln, pp], D) rfl trivial ?_
        obtain ⟨q1, hc, h⟩ := zk_bind h
        refine hr.2.2.1 _ _ _ _ _ (d) rfl (by omega) (c_g_Row_byteBack_1 (l := l) (E := E) (d := d) (cb := cb) (sd := sd) (ln := ln) (pp := pp) hc) (fun v S hq => ?_)
        obtain ⟨rfl, rfl⟩ := hq
        clear hc
        obtain ⟨q2, hc, h⟩ := zk_bind h
        refine hr.2.2.1 _ _ _ _ _ (d) rfl (by omega) (c_g_Row_append_1 (l := l) (E := E) (d := d) (cb := cb) (sd := sd) (ln := ln) (pp := pp) hc) (fun v S hq => ?_)
        obtain ⟨rfl, rfl⟩ := hq
        clear hc
        refine hr.1 2 True _ _ (3, [some (.ref 1), some (.long x1), none, some (.int x3), some (.int (x4 + 1))], [], [cb, sd, ln, pp], q2) rfl trivial ?_
        exact ih (x4 + 1) q2 _ h hx
  rw [g_Row_repeat_1] at h
  refine hr.1 2 True _ _ (3, [some (.ref 1), some (.long x1), none, some (.int x3), some (.int 0)], [], [cb, sd, ln, pp], D) rfl trivial ?_
  obtain ⟨q3, hc, h⟩ := zk_bind h
  refine loop3 x1 x3 10000 0 D q3 hc (fun e4 => ?_)
  clear hc
  exact hr.2.2.2 _ _ _ rfl trivial ⟨rfl, (congrArg (fun x => (([cb, sd, ln, pp], x) : zx_S)) (Option.some.inj h))⟩
set_option maxRecDepth 100000 in
set_option maxHeartbeats 4000000 in
theorem c_g_P_copy {l : Launch} {E : zx_E} {d : Nat} {cb sd ln pp : Nat} {x1 : Int32} {x2 : Int32} {D : zx_D} {q : Int32 × zx_D} (h : g_P_copy x1 x2 D = some q) : zx_MC l E 1 (d + 2) [.ref 0, .int x1, .int x2] ([cb, sd, ln, pp], D) (fun v S => v = some (.int q.1) ∧ S = ([cb, sd, ln, pp], q.2)) := by
  refine zx_ofC (K := ck_P_copy) rfl (by decide +kernel) rfl ok_P_copy (Nat.le_of_ble_eq_true rfl) (fun Zp hr => ?_)
  show Zp (0, [some (.ref 0), some (.int x1), some (.int x2)], [], [cb, sd, ln, pp], D)
  rw [g_P_copy] at h
  refine hr.1 2 True _ _ (2, [some (.ref 0), some (.int x1), some (.int x2)], [.int 1, .int x2], [cb, sd, ln, pp], D) rfl trivial ?_
  refine hr.2.1 _ (x2 < 1) _ _ rfl (fun c2 => ?_) (fun c2 => ?_)
  · replace h := zk_t h c2
    refine hr.1 1 True _ _ (40, [some (.ref 0), some (.int x1), some (.int x2)], [.int (-1)], [cb, sd, ln, pp], D) rfl trivial ?_
    exact hr.2.2.2 _ _ _ rfl trivial ⟨(congrArg (fun x => some (Value.int x.1)) (Option.some.inj h)), (congrArg (fun x => (([cb, sd, ln, pp], x.2) : zx_S)) (Option.some.inj h))⟩
  · replace h := zk_f h c2
    refine hr.1 2 True _ _ (9, [some (.ref 0), some (.int x1), some (.int x2)], [.int 300, .int x2], [cb, sd, ln, pp], D) rfl trivial ?_
    refine hr.2.1 _ (300 < x2) _ _ rfl (fun c9 => ?_) (fun c9 => ?_)
    · replace h := zk_t h c9
      refine hr.1 1 True _ _ (40, [some (.ref 0), some (.int x1), some (.int x2)], [.int (-1)], [cb, sd, ln, pp], D) rfl trivial ?_
      exact hr.2.2.2 _ _ _ rfl trivial ⟨(congrArg (fun x => some (Value.int x.1)) (Option.some.inj h)), (congrArg (fun x => (([cb, sd, ln, pp], x.2) : zx_S)) (Option.some.inj h))⟩
    · replace h := zk_f h c9
      refine hr.1 2 True _ _ (14, [some (.ref 0), some (.int x1), some (.int x2)], [.int 1, .int x1], [cb, sd, ln, pp], D) rfl trivial ?_
      refine hr.2.1 _ (x1 < 1) _ _ rfl (fun c14 => ?_) (fun c14 => ?_)
      · replace h := zk_t h c14
        refine hr.1 1 True _ _ (40, [some (.ref 0), some (.int x1), some (.int x2)], [.int (-1)], [cb, sd, ln, pp], D) rfl trivial ?_
        exact hr.2.2.2 _ _ _ rfl trivial ⟨(congrArg (fun x => some (Value.int x.1)) (Option.some.inj h)), (congrArg (fun x => (([cb, sd, ln, pp], x.2) : zx_S)) (Option.some.inj h))⟩
      · replace h := zk_f h c14
        refine hr.1 4 True _ _ (25, [some (.ref 0), some (.int x1), some (.int x2)], [.int (zg_i D 1 1), .int x1], [cb, sd, ln, pp], D) rfl trivial ?_
        refine hr.2.1 _ (zg_i D 1 1 < x1) _ _ rfl (fun c25 => ?_) (fun c25 => ?_)
        · replace h := zk_t h c25
          refine hr.1 1 True _ _ (40, [some (.ref 0), some (.int x1), some (.int x2)], [.int (-1)], [cb, sd, ln, pp], D) rfl trivial ?_
          exact hr.2.2.2 _ _ _ rfl trivial ⟨(congrArg (fun x => some (Value.int x.1)) (Option.some.inj h)), (congrArg (fun x => (([cb, sd, ln, pp], x.2) : zx_S)) (Option.some.inj h))⟩
        · replace h := zk_f h c25
          refine hr.1 3 True _ _ (33, [some (.ref 0), some (.int x1), some (.int x2)], [.int x2, .ref 1], [cb, sd, ln, pp], D) rfl trivial ?_
          obtain ⟨q1, hc, h⟩ := zk_bind h
          refine hr.2.2.1 _ _ _ _ _ (d + 1) rfl (by omega) (c_g_Row_hasRoom_1 (l := l) (E := E) (d := d + 1) (cb := cb) (sd := sd) (ln := ln) (pp := pp) hc) (fun v S hq => ?_)
          obtain ⟨rfl, rfl⟩ := hq
          clear hc
          refine hr.2.1 _ (¬ q1 = 0) _ _ rfl (fun c36 => ?_) (fun c36 => ?_)
          · replace h := zk_t h c36
            refine hr.1 5 True _ _ (48, [some (.ref 0), some (.int x1), some (.int x2)], [.int x2, .long ((x1).toInt64), .ref 1], [cb, sd, ln, pp], D) rfl trivial ?_
            obtain ⟨q2, hc, h⟩ := zk_bind h
            refine hr.2.2.1 _ _ _ _ _ (d + 1) rfl (by omega) (c_g_Row_repeat_1 (l := l) (E := E) (d := d) (cb := cb) (sd := sd) (ln := ln) (pp := pp) hc) (fun v S hq => ?_)
            obtain ⟨rfl, rfl⟩ := hq
            clear hc
            refine hr.1 3 True _ _ (58, [some (.ref 0), some (.int x1), some (.int x2)], [.int (zg_i q2 1 1)], [cb, sd, ln, pp], q2) rfl trivial ?_
            exact hr.2.2.2 _ _ _ rfl trivial ⟨(congrArg (fun x => some (Value.int x.1)) (Option.some.inj h)), (congrArg (fun x => (([cb, sd, ln, pp], x.2) : zx_S)) (Option.some.inj h))⟩
          · replace h := zk_f h c36
            refine hr.1 1 True _ _ (40, [some (.ref 0), some (.int x1), some (.int x2)], [.int (-1)], [cb, sd, ln, pp], D) rfl trivial ?_
            exact hr.2.2.2 _ _ _ rfl trivial ⟨(congrArg (fun x => some (Value.int x.1)) (Option.some.inj h)), (congrArg (fun x => (([cb, sd, ln, pp], x.2) : zx_S)) (Option.some.inj h))⟩
set_option maxRecDepth 100000 in
set_option maxHeartbeats 4000000 in
theorem c_g_P_change {l : Launch} {E : zx_E} {d : Nat} {cb sd ln pp : Nat} {x1 : Int32} {x2 : Int32} {D : zx_D} {q : Int32 × zx_D} (h : g_P_change x1 x2 D = some q) : zx_MC l E 3 (d + 1) [.ref 0, .int x1, .int x2] ([cb, sd, ln, pp], D) (fun v S => v = some (.int q.1) ∧ S = ([cb, sd, ln, pp], q.2)) := by
  refine zx_ofC (K := ck_P_change) rfl (by decide +kernel) rfl ok_P_change (Nat.le_of_ble_eq_true rfl) (fun Zp hr => ?_)
  show Zp (0, [some (.ref 0), some (.int x1), some (.int x2), none], [], [cb, sd, ln, pp], D)
  rw [g_P_change] at h
  refine hr.1 3 True _ _ (5, [some (.ref 0), some (.int x1), some (.int x2), none], [.int x1, .ref 3], [cb, sd, ln, pp], D) rfl trivial ?_
  obtain ⟨q1, hc, h⟩ := zk_bind h
  refine hr.2.2.1 _ _ _ _ _ (d) rfl (by omega) (c_g_Row_byteAt_3 (l := l) (E := E) (d := d) (cb := cb) (sd := sd) (ln := ln) (pp := pp) hc) (fun v S hq => ?_)
  obtain ⟨rfl, rfl⟩ := hq
  clear hc
  refine hr.1 3 True _ _ (11, [some (.ref 0), some (.int x1), some (.int x2), some (.int q1)], [.int (-1), .int q1], [cb, sd, ln, pp], D) rfl trivial ?_
  refine hr.2.1 _ (q1 = -1) _ _ rfl (fun c11 => ?_) (fun c11 => ?_)
  · replace h := zk_t h c11
    refine hr.1 1 True _ _ (26, [some (.ref 0), some (.int x1), some (.int x2), some (.int q1)], [.int (-1)], [cb, sd, ln, pp], D) rfl trivial ?_
    exact hr.2.2.2 _ _ _ rfl trivial ⟨(congrArg (fun x => some (Value.int x.1)) (Option.some.inj h)), (congrArg (fun x => (([cb, sd, ln, pp], x.2) : zx_S)) (Option.some.inj h))⟩
  · replace h := zk_f h c11
    refine hr.1 1 True _ _ (15, [some (.ref 0), some (.int x1), some (.int x2), some (.int q1)], [.int x2], [cb, sd, ln, pp], D) rfl trivial ?_
    refine hr.2.1 _ (x2 < 0) _ _ rfl (fun c15 => ?_) (fun c15 => ?_)
    · replace h := zk_t h c15
      refine hr.1 1 True _ _ (26, [some (.ref 0), some (.int x1), some (.int x2), some (.int q1)], [.int (-1)], [cb, sd, ln, pp], D) rfl trivial ?_
      exact hr.2.2.2 _ _ _ rfl trivial ⟨(congrArg (fun x => some (Value.int x.1)) (Option.some.inj h)), (congrArg (fun x => (([cb, sd, ln, pp], x.2) : zx_S)) (Option.some.inj h))⟩
    · replace h := zk_f h c15
      refine hr.1 2 True _ _ (22, [some (.ref 0), some (.int x1), some (.int x2), some (.int q1)], [.int 255, .int x2], [cb, sd, ln, pp], D) rfl trivial ?_
      refine hr.2.1 _ (x2 ≤ 255) _ _ rfl (fun c22 => ?_) (fun c22 => ?_)
      · replace h := zk_t h c22
        obtain ⟨w2, h⟩ := zk_ck h
        refine hr.1 7 True _ _ (38, [some (.ref 0), some (.int x1), some (.int x2), some (.int q1)], [.int q1], [cb, sd, ln, pp], zp_i D 4 (zn x1) x2) rfl ⟨trivial, (zk_vp w2)⟩ ?_
        exact hr.2.2.2 _ _ _ rfl trivial ⟨(congrArg (fun x => some (Value.int x.1)) (Option.some.inj h)), (congrArg (fun x => (([cb, sd, ln, pp], x.2) : zx_S)) (Option.some.inj h))⟩
      · replace h := zk_f h c22
        refine hr.1 1 True _ _ (26, [some (.ref 0), some (.int x1), some (.int x2), some (.int q1)], [.int (-1)], [cb, sd, ln, pp], D) rfl trivial ?_
        exact hr.2.2.2 _ _ _ rfl trivial ⟨(congrArg (fun x => some (Value.int x.1)) (Option.some.inj h)), (congrArg (fun x => (([cb, sd, ln, pp], x.2) : zx_S)) (Option.some.inj h))⟩
set_option maxRecDepth 100000 in
set_option maxHeartbeats 4000000 in
theorem c_g_P_where {l : Launch} {E : zx_E} {d : Nat} {cb sd ln pp : Nat} {D : zx_D} {q : Int32} (h : g_P_where D = some q) : zx_MC l E 7 d [.ref 0] ([cb, sd, ln, pp], D) (fun v S => v = some (.int q) ∧ S = ([cb, sd, ln, pp], D)) := by
  refine zx_ofC (K := ck_P_where) rfl (by decide +kernel) rfl ok_P_where (Nat.le_of_ble_eq_true rfl) (fun Zp hr => ?_)
  show Zp (0, [some (.ref 0)], [], [cb, sd, ln, pp], D)
  rw [g_P_where] at h
  refine hr.1 4 True _ _ (10, [some (.ref 0)], [.int (zg_i D 12 5)], [cb, sd, ln, pp], D) rfl trivial ?_
  exact hr.2.2.2 _ _ _ rfl trivial ⟨(congrArg (fun x => some (Value.int x)) (Option.some.inj h)), rfl⟩
set_option maxRecDepth 100000 in
set_option maxHeartbeats 4000000 in
theorem c_g_P_watch {l : Launch} {E : zx_E} {d : Nat} {cb sd ln pp : Nat} {x1 : Int32} {D : zx_D} {q : Int32 × zx_D} (h : g_P_watch x1 D = some q) : zx_MC l E 8 d [.ref 0, .int x1] ([cb, sd, ln, pp], D) (fun v S => v = some (.int q.1) ∧ S = ([cb, sd, ln, pp], q.2)) := by
  refine zx_ofC (K := ck_P_watch) rfl (by decide +kernel) rfl ok_P_watch (Nat.le_of_ble_eq_true rfl) (fun Zp hr => ?_)
  show Zp (0, [some (.ref 0), some (.int x1)], [], [cb, sd, ln, pp], D)
  rw [g_P_watch] at h
  refine hr.1 2 True _ _ (2, [some (.ref 0), some (.int x1)], [.int 1, .int x1], [cb, sd, ln, pp], D) rfl trivial ?_
  refine hr.2.1 _ (1 ≤ x1) _ _ rfl (fun c2 => ?_) (fun c2 => ?_)
  · replace h := zk_t h c2
    refine hr.1 5 True _ _ (16, [some (.ref 0), some (.int x1)], [.int 1], [cb, sd, ln, pp], zp_i D 5 9 x1) rfl trivial ?_
    exact hr.2.2.2 _ _ _ rfl (Or.inr rfl) ⟨(congrArg (fun x => some (Value.int x.1)) (Option.some.inj h)), (congrArg (fun x => (([cb, sd, ln, pp], x.2) : zx_S)) (Option.some.inj h))⟩
  · replace h := zk_f h c2
    refine hr.1 1 True _ _ (6, [some (.ref 0), some (.int x1)], [.int 0], [cb, sd, ln, pp], D) rfl trivial ?_
    exact hr.2.2.2 _ _ _ rfl (Or.inl rfl) ⟨(congrArg (fun x => some (Value.int x.1)) (Option.some.inj h)), (congrArg (fun x => (([cb, sd, ln, pp], x.2) : zx_S)) (Option.some.inj h))⟩
set_option maxRecDepth 100000 in
set_option maxHeartbeats 4000000 in
theorem c_g_P_range {l : Launch} {E : zx_E} {d : Nat} {cb sd ln pp : Nat} {D : zx_D} {q : Int64} (h : g_P_range D = some q) : zx_MC l E 9 d [.ref 0] ([cb, sd, ln, pp], D) (fun v S => v = some (.long q) ∧ S = ([cb, sd, ln, pp], D)) := by
  refine zx_ofC (K := ck_P_range) rfl (by decide +kernel) rfl ok_P_range (Nat.le_of_ble_eq_true rfl) (fun Zp hr => ?_)
  show Zp (0, [some (.ref 0)], [], [cb, sd, ln, pp], D)
  rw [g_P_range] at h
  refine hr.1 3 True _ _ (7, [some (.ref 0)], [.long (zg_l D 5 10)], [cb, sd, ln, pp], D) rfl trivial ?_
  exact hr.2.2.2 _ _ _ rfl trivial ⟨(congrArg (fun x => some (Value.long x)) (Option.some.inj h)), rfl⟩
set_option maxRecDepth 100000 in
set_option maxHeartbeats 4000000 in
theorem c_g_P_code {l : Launch} {E : zx_E} {d : Nat} {cb sd ln pp : Nat} {D : zx_D} {q : Int64} (h : g_P_code D = some q) : zx_MC l E 10 d [.ref 0] ([cb, sd, ln, pp], D) (fun v S => v = some (.long q) ∧ S = ([cb, sd, ln, pp], D)) := by
  refine zx_ofC (K := ck_P_code) rfl (by decide +kernel) rfl ok_P_code (Nat.le_of_ble_eq_true rfl) (fun Zp hr => ?_)
  show Zp (0, [some (.ref 0)], [], [cb, sd, ln, pp], D)
  rw [g_P_code] at h
  refine hr.1 3 True _ _ (7, [some (.ref 0)], [.long (zg_l D 5 11)], [cb, sd, ln, pp], D) rfl trivial ?_
  exact hr.2.2.2 _ _ _ rfl trivial ⟨(congrArg (fun x => some (Value.long x)) (Option.some.inj h)), rfl⟩
set_option maxRecDepth 100000 in
set_option maxHeartbeats 4000000 in
theorem c_g_P_count {l : Launch} {E : zx_E} {d : Nat} {cb sd ln pp : Nat} {x1 : Int32} {D : zx_D} {q : Int32} (h : g_P_count x1 D = some q) : zx_MC l E 11 d [.ref 0, .int x1] ([cb, sd, ln, pp], D) (fun v S => v = some (.int q) ∧ S = ([cb, sd, ln, pp], D)) := by
  refine zx_ofC (K := ck_P_count) rfl (by decide +kernel) rfl ok_P_count (Nat.le_of_ble_eq_true rfl) (fun Zp hr => ?_)
  show Zp (0, [some (.ref 0), some (.int x1)], [], [cb, sd, ln, pp], D)
  rw [g_P_count] at h
  refine hr.1 1 True _ _ (1, [some (.ref 0), some (.int x1)], [.int x1], [cb, sd, ln, pp], D) rfl trivial ?_
  refine hr.2.1 _ (x1 < 0) _ _ rfl (fun c1 => ?_) (fun c1 => ?_)
  · replace h := zk_t h c1
    refine hr.1 1 True _ _ (11, [some (.ref 0), some (.int x1)], [.int (-1)], [cb, sd, ln, pp], D) rfl trivial ?_
    exact hr.2.2.2 _ _ _ rfl trivial ⟨(congrArg (fun x => some (Value.int x)) (Option.some.inj h)), rfl⟩
  · replace h := zk_f h c1
    refine hr.1 2 True _ _ (7, [some (.ref 0), some (.int x1)], [.int 11, .int x1], [cb, sd, ln, pp], D) rfl trivial ?_
    refine hr.2.1 _ (x1 < 11) _ _ rfl (fun c7 => ?_) (fun c7 => ?_)
    · replace h := zk_t h c7
      refine hr.1 1 True _ _ (13, [some (.ref 0), some (.int x1)], [.int x1], [cb, sd, ln, pp], D) rfl trivial ?_
      refine hr.2.1 _ (¬ x1 = 0) _ _ rfl (fun c13 => ?_) (fun c13 => ?_)
      · replace h := zk_t h c13
        obtain ⟨w2, h⟩ := zk_ck h
        refine hr.1 5 True _ _ (35, [some (.ref 0), some (.int x1)], [.int (zg_i D 14 (zn x1))], [cb, sd, ln, pp], D) rfl ⟨trivial, (zk_vp w2)⟩ ?_
        exact hr.2.2.2 _ _ _ rfl trivial ⟨(congrArg (fun x => some (Value.int x)) (Option.some.inj h)), rfl⟩
      · replace h := zk_f h c13
        refine hr.1 4 True _ _ (35, [some (.ref 0), some (.int x1)], [.int (zg_i D 5 8)], [cb, sd, ln, pp], D) rfl trivial ?_
        exact hr.2.2.2 _ _ _ rfl trivial ⟨(congrArg (fun x => some (Value.int x)) (Option.some.inj h)), rfl⟩
    · replace h := zk_f h c7
      refine hr.1 1 True _ _ (11, [some (.ref 0), some (.int x1)], [.int (-1)], [cb, sd, ln, pp], D) rfl trivial ?_
      exact hr.2.2.2 _ _ _ rfl trivial ⟨(congrArg (fun x => some (Value.int x)) (Option.some.inj h)), rfl⟩
set_option maxRecDepth 100000 in
set_option maxHeartbeats 4000000 in
theorem c_g_P_isSort {l : Launch} {E : zx_E} {d : Nat} {cb sd ln pp : Nat} {x0 : Int32} {D : zx_D} {q : Int32} (h : g_P_isSort x0 D = some q) : zx_MC l E 14 d [.int x0] ([cb, sd, ln, pp], D) (fun v S => v = some (.int q) ∧ S = ([cb, sd, ln, pp], D)) := by
  refine zx_ofC (K := ck_P_isSort) rfl (by decide +kernel) rfl ok_P_isSort (Nat.le_of_ble_eq_true rfl) (fun Zp hr => ?_)
  show Zp (0, [some (.int x0)], [], [cb, sd, ln, pp], D)
  rw [g_P_isSort] at h
  refine hr.1 1 True _ _ (1, [some (.int x0)], [.int x0], [cb, sd, ln, pp], D) rfl trivial ?_
  refine hr.2.1 _ (x0 = 0) _ _ rfl (fun c1 => ?_) (fun c1 => ?_)
  · replace h := zk_t h c1
    refine hr.1 2 True _ _ (19, [some (.int x0)], [.int 1], [cb, sd, ln, pp], D) rfl trivial ?_
    exact hr.2.2.2 _ _ _ rfl (Or.inr rfl) ⟨(congrArg (fun x => some (Value.int x)) (Option.some.inj h)), rfl⟩
  · replace h := zk_f h c1
    refine hr.1 2 True _ _ (6, [some (.int x0)], [.int 1, .int x0], [cb, sd, ln, pp], D) rfl trivial ?_
    refine hr.2.1 _ (x0 = 1) _ _ rfl (fun c6 => ?_) (fun c6 => ?_)
    · replace h := zk_t h c6
      refine hr.1 2 True _ _ (19, [some (.int x0)], [.int 1], [cb, sd, ln, pp], D) rfl trivial ?_
      exact hr.2.2.2 _ _ _ rfl (Or.inr rfl) ⟨(congrArg (fun x => some (Value.int x)) (Option.some.inj h)), rfl⟩
    · replace h := zk_f h c6
      refine hr.1 2 True _ _ (11, [some (.int x0)], [.int 4, .int x0], [cb, sd, ln, pp], D) rfl trivial ?_
      refine hr.2.1 _ (¬ x0 = 4) _ _ rfl (fun c11 => ?_) (fun c11 => ?_)
      · replace h := zk_t h c11
        refine hr.1 1 True _ _ (19, [some (.int x0)], [.int 0], [cb, sd, ln, pp], D) rfl trivial ?_
        exact hr.2.2.2 _ _ _ rfl (Or.inl rfl) ⟨(congrArg (fun x => some (Value.int x)) (Option.some.inj h)), rfl⟩
      · replace h := zk_f h c11
        refine hr.1 2 True _ _ (19, [some (.int x0)], [.int 1], [cb, sd, ln, pp], D) rfl trivial ?_
        exact hr.2.2.2 _ _ _ rfl (Or.inr rfl) ⟨(congrArg (fun x => some (Value.int x)) (Option.some.inj h)), rfl⟩
set_option maxRecDepth 100000 in
set_option maxHeartbeats 4000000 in
theorem c_g_P_areProperties {l : Launch} {E : zx_E} {d : Nat} {cb sd ln pp : Nat} {x0 : Int32} {D : zx_D} {q : Int32} (h : g_P_areProperties x0 D = some q) : zx_MC l E 16 d [.int x0] ([cb, sd, ln, pp], D) (fun v S => v = some (.int q) ∧ S = ([cb, sd, ln, pp], D)) := by
  refine zx_ofC (K := ck_P_areProperties) rfl (by decide +kernel) rfl ok_P_areProperties (Nat.le_of_ble_eq_true rfl) (fun Zp hr => ?_)
  show Zp (0, [some (.int x0)], [], [cb, sd, ln, pp], D)
  rw [g_P_areProperties] at h
  refine hr.1 1 True _ _ (1, [some (.int x0)], [.int x0], [cb, sd, ln, pp], D) rfl trivial ?_
  refine hr.2.1 _ (x0 < 0) _ _ rfl (fun c1 => ?_) (fun c1 => ?_)
  · replace h := zk_t h c1
    refine hr.1 1 True _ _ (12, [some (.int x0)], [.int 0], [cb, sd, ln, pp], D) rfl trivial ?_
    exact hr.2.2.2 _ _ _ rfl (Or.inl rfl) ⟨(congrArg (fun x => some (Value.int x)) (Option.some.inj h)), rfl⟩
  · replace h := zk_f h c1
    refine hr.1 2 True _ _ (8, [some (.int x0)], [.int 225, .int x0], [cb, sd, ln, pp], D) rfl trivial ?_
    refine hr.2.1 _ (x0 < 225) _ _ rfl (fun c8 => ?_) (fun c8 => ?_)
    · replace h := zk_t h c8
      refine hr.1 10 True _ _ (25, [some (.int x0)], [.int 3, .int ((zo_rem x0 9) + (zo_rem (x0 / 9) 5))], [cb, sd, ln, pp], D) rfl trivial ?_
      refine hr.2.1 _ (3 < (zo_rem x0 9) + (zo_rem (x0 / 9) 5)) _ _ rfl (fun c25 => ?_) (fun c25 => ?_)
      · replace h := zk_t h c25
        refine hr.1 1 True _ _ (33, [some (.int x0)], [.int 0], [cb, sd, ln, pp], D) rfl trivial ?_
        exact hr.2.2.2 _ _ _ rfl (Or.inl rfl) ⟨(congrArg (fun x => some (Value.int x)) (Option.some.inj h)), rfl⟩
      · replace h := zk_f h c25
        refine hr.1 2 True _ _ (33, [some (.int x0)], [.int 1], [cb, sd, ln, pp], D) rfl trivial ?_
        exact hr.2.2.2 _ _ _ rfl (Or.inr rfl) ⟨(congrArg (fun x => some (Value.int x)) (Option.some.inj h)), rfl⟩
    · replace h := zk_f h c8
      refine hr.1 1 True _ _ (12, [some (.int x0)], [.int 0], [cb, sd, ln, pp], D) rfl trivial ?_
      exact hr.2.2.2 _ _ _ rfl (Or.inl rfl) ⟨(congrArg (fun x => some (Value.int x)) (Option.some.inj h)), rfl⟩
set_option maxRecDepth 100000 in
set_option maxHeartbeats 4000000 in
theorem c_g_Row_clear_18 {l : Launch} {E : zx_E} {d : Nat} {cb sd ln pp : Nat} {D : zx_D} {q : zx_D} (h : g_Row_clear_18 D = some q) : zx_MC l E 20 d [.ref 18] ([cb, sd, ln, pp], D) (fun v S => v = none ∧ S = ([cb, sd, ln, pp], q)) := by
  refine zx_ofC (K := ck_Row_clear) rfl (by decide +kernel) rfl ok_Row_clear (Nat.le_of_ble_eq_true rfl) (fun Zp hr => ?_)
  show Zp (0, [some (.ref 18)], [], [cb, sd, ln, pp], D)
  rw [g_Row_clear_18] at h
  refine hr.1 6 True _ _ (10, [some (.ref 18)], [], [cb, sd, ln, pp], zp_i (zp_i D 18 1 0) 18 2 0) rfl ⟨trivial, (Or.inl rfl)⟩ ?_
  exact hr.2.2.2 _ _ _ rfl trivial ⟨rfl, (congrArg (fun x => (([cb, sd, ln, pp], x) : zx_S)) (Option.some.inj h))⟩
set_option maxRecDepth 100000 in
set_option maxHeartbeats 4000000 in
theorem c_g_Row_append_18 {l : Launch} {E : zx_E} {d : Nat} {cb sd ln pp : Nat} {x1 : Int32} {D : zx_D} {q : zx_D} (h : g_Row_append_18 x1 D = some q) : zx_MC l E 22 d [.ref 18, .int x1] ([cb, sd, ln, pp], D) (fun v S => v = none ∧ S = ([cb, sd, ln, pp], q)) := by
  refine zx_ofC (K := ck_Row_append) rfl (by decide +kernel) rfl ok_Row_append (Nat.le_of_ble_eq_true rfl) (fun Zp hr => ?_)
  show Zp (0, [some (.ref 18), some (.int x1)], [], [cb, sd, ln, pp], D)
  rw [g_Row_append_18] at h
  refine hr.1 5 True _ _ (9, [some (.ref 18), some (.int x1)], [.int 640, .int (zg_i D 18 1)], [cb, sd, ln, pp], D) rfl trivial ?_
  refine hr.2.1 _ (zg_i D 18 1 < 640) _ _ rfl (fun c9 => ?_) (fun c9 => ?_)
  · replace h := zk_t h c9
    obtain ⟨w2, h⟩ := zk_ck h
    refine hr.1 12 True _ _ (38, [some (.ref 18), some (.int x1)], [], [cb, sd, ln, pp], zp_i (zp_i D 19 (zn (zg_i D 18 1)) x1) 18 1 ((zg_i D 18 1) + 1)) rfl ⟨trivial, (zk_vp w2)⟩ ?_
    exact hr.2.2.2 _ _ _ rfl trivial ⟨rfl, (congrArg (fun x => (([cb, sd, ln, pp], x) : zx_S)) (Option.some.inj h))⟩
  · replace h := zk_f h c9
    refine hr.1 3 True _ _ (17, [some (.ref 18), some (.int x1)], [], [cb, sd, ln, pp], zp_i D 18 2 1) rfl ⟨trivial, (Or.inr rfl)⟩ ?_
    exact hr.2.2.2 _ _ _ rfl trivial ⟨rfl, (congrArg (fun x => (([cb, sd, ln, pp], x) : zx_S)) (Option.some.inj h))⟩
set_option maxRecDepth 100000 in
set_option maxHeartbeats 4000000 in
theorem c_g_Row_appendAll_18_23 {l : Launch} {E : zx_E} {d : Nat} {cb sd ln pp : Nat} {x2 : Int32} {x3 : Int32} {D : zx_D} {q : zx_D} (h : g_Row_appendAll_18_23 x2 x3 D = some q) : zx_MC l E 23 (d + 1) [.ref 18, .ref 23, .int x2, .int x3] ([cb, sd, ln, pp], D) (fun v S => v = none ∧ S = ([cb, sd, ln, pp], q)) := by
  refine zx_ofC (K := ck_Row_appendAll) rfl (by decide +kernel) rfl ok_Row_appendAll (Nat.le_of_ble_eq_true rfl) (fun Zp hr => ?_)
  show Zp (0, [some (.ref 18), some (.ref 23), some (.int x2), some (.int x3), none], [], [cb, sd, ln, pp], D)
  have loop3 : ∀ (x2 : Int32) (x3 : Int32) (k : Nat) (x4 : Int32) (D : zx_D) (q : zx_D), g_Row_appendAll_18_23_3 x2 x3 k x4 D = some q → (∀ (e4 : Int32), Zp (25, [some (.ref 18), some (.ref 23), some (.int x2), some (.int x3), some (.int e4)], [], [cb, sd, ln, pp], q)) → Zp (3, [some (.ref 18), some (.ref 23), some (.int x2), some (.int x3), some (.int x4)], [], [cb, sd, ln, pp], D) := by
    intro x2 x3 k
    induction k with
    | zero => intro x4 D q h hx; exact (zk_no h).elim
    | succ k ih =>
      intro x4 D q h hx
      rw [g_Row_appendAll_18_23_3] at h
      refine hr.1 4 True _ _ (8, [some (.ref 18), some (.ref 23), some (.int x2), some (.int x3), some (.int x4)], [.int (x2 + x3), .int x4], [cb, sd, ln, pp], D) rfl trivial ?_
      refine hr.2.1 _ (x2 + x3 ≤ x4) _ _ rfl (fun c8 => ?_) (fun c8 => ?_)
      · replace h := zk_t h c8
        replace h := Option.some.inj h
        subst h
        exact hx x4
      · replace h := zk_f h c8
        obtain ⟨w2, h⟩ := zk_ck h
        refine hr.1 4 True _ _ (16, [some (.ref 18), some (.ref 23), some (.int x2), some (.int x3), some (.int x4)], [.int (ro_f (zn x4)), .ref 18], [cb, sd, ln, pp], D) rfl ⟨trivial, (zk_vp w2)⟩ ?_
        obtain ⟨q1, hc, h⟩ := zk_bind h
        refine hr.2.2.1 _ _ _ _ _ (d) rfl (by omega) (c_g_Row_append_18 (l := l) (E := E) (d := d) (cb := cb) (sd := sd) (ln := ln) (pp := pp) hc) (fun v S hq => ?_)
        obtain ⟨rfl, rfl⟩ := hq
        clear hc
        refine hr.1 2 True _ _ (3, [some (.ref 18), some (.ref 23), some (.int x2), some (.int x3), some (.int (x4 + 1))], [], [cb, sd, ln, pp], q1) rfl trivial ?_
        exact ih (x4 + 1) q1 _ h hx
  rw [g_Row_appendAll_18_23] at h
  refine hr.1 2 True _ _ (3, [some (.ref 18), some (.ref 23), some (.int x2), some (.int x3), some (.int x2)], [], [cb, sd, ln, pp], D) rfl trivial ?_
  obtain ⟨q2, hc, h⟩ := zk_bind h
  refine loop3 x2 x3 10000 x2 D q2 hc (fun e4 => ?_)
  clear hc
  exact hr.2.2.2 _ _ _ rfl trivial ⟨rfl, (congrArg (fun x => (([cb, sd, ln, pp], x) : zx_S)) (Option.some.inj h))⟩
set_option maxRecDepth 100000 in
set_option maxHeartbeats 4000000 in
theorem c_g_P_sumBy_19 {l : Launch} {E : zx_E} {d : Nat} {cb sd ln pp : Nat} {x1 : Int32} {x2 : Int32} {x3 : Int64} {x5 : Int64} {D : zx_D} {q : Int64} (h : g_P_sumBy_19 x1 x2 x3 x5 D = some q) : zx_MC l E 19 d [.ref 19, .int x1, .int x2, .long x3, .long x5] ([cb, sd, ln, pp], D) (fun v S => v = some (.long q) ∧ S = ([cb, sd, ln, pp], D)) := by
  refine zx_ofC (K := ck_P_sumBy) rfl (by decide +kernel) rfl ok_P_sumBy (Nat.le_of_ble_eq_true rfl) (fun Zp hr => ?_)
  show Zp (0, [some (.ref 19), some (.int x1), some (.int x2), some (.long x3), none, some (.long x5), none, none, none, none, none], [], [cb, sd, ln, pp], D)
  have loop25 : ∀ (x2 : Int32) (x3 : Int64) (x5 : Int64) (x9 : Int32) (D : zx_D) (k : Nat) (x7 : Int64) (x10 : Int32) (x1 : Int32) (q : Int64), g_P_sumBy_19_25 x2 x3 x5 x9 D k x7 x10 = some q → (∀ (e10 : Int32), Zp (63, [some (.ref 19), some (.int x1), some (.int x2), some (.long x3), none, some (.long x5), none, some (.long q), none, some (.int x9), some (.int e10)], [], [cb, sd, ln, pp], D)) → Zp (25, [some (.ref 19), some (.int x1), some (.int x2), some (.long x3), none, some (.long x5), none, some (.long x7), none, some (.int x9), some (.int x10)], [], [cb, sd, ln, pp], D) := by
    intro x2 x3 x5 x9 D k
    induction k with
    | zero => intro x7 x10 x1 q h hx; exact (zk_no h).elim
    | succ k ih =>
      intro x7 x10 x1 q h hx
      rw [g_P_sumBy_19_25] at h
      refine hr.1 2 True _ _ (29, [some (.ref 19), some (.int x1), some (.int x2), some (.long x3), none, some (.long x5), none, some (.long x7), none, some (.int x9), some (.int x10)], [.int 8, .int x10], [cb, sd, ln, pp], D) rfl trivial ?_
      refine hr.2.1 _ (8 ≤ x10) _ _ rfl (fun c29 => ?_) (fun c29 => ?_)
      · replace h := zk_t h c29
        replace h := Option.some.inj h
        subst h
        exact hx x10
      · replace h := zk_f h c29
        refine hr.1 4 True _ _ (37, [some (.ref 19), some (.int x1), some (.int x2), some (.long x3), none, some (.long x5), none, some (.long x7), none, some (.int x9), some (.int x10)], [.long 1, .long (x7 &&& 1)], [cb, sd, ln, pp], D) rfl trivial ?_
        refine hr.2.1 _ (¬ x7 &&& 1 = 1) _ _ rfl (fun c37 => ?_) (fun c37 => ?_)
        · replace h := zk_t h c37
          refine hr.1 6 True _ _ (25, [some (.ref 19), some (.int x1), some (.int x2), some (.long x3), none, some (.long x5), none, some (.long (zo_lushr x7 1)), none, some (.int x9), some (.int (x10 + 1))], [], [cb, sd, ln, pp], D) rfl trivial ?_
          exact ih (zo_lushr x7 1) (x10 + 1)  _ _ h hx
        · replace h := zk_f h c37
          refine hr.1 9 True _ _ (25, [some (.ref 19), some (.int x1), some (.int x2), some (.long x3), none, some (.long x5), none, some (.long ((zo_lushr x7 1) ^^^ x5)), none, some (.int x9), some (.int (x10 + 1))], [], [cb, sd, ln, pp], D) rfl trivial ?_
          exact ih ((zo_lushr x7 1) ^^^ x5) (x10 + 1)  _ _ h hx
  have loop6 : ∀ (x2 : Int32) (x3 : Int64) (x5 : Int64) (D : zx_D) (k : Nat) (x7 : Int64) (x9 : Int32) (o10 : Option Value) (x1 : Int32) (q : Int64), g_P_sumBy_19_6 x2 x3 x5 D k x7 x9 = some q → (∀ (e9 : Int32) (o10 : Option Value), Zp (69, [some (.ref 19), some (.int x1), some (.int x2), some (.long x3), none, some (.long x5), none, some (.long q), none, some (.int e9), o10], [], [cb, sd, ln, pp], D)) → Zp (6, [some (.ref 19), some (.int x1), some (.int x2), some (.long x3), none, some (.long x5), none, some (.long x7), none, some (.int x9), o10], [], [cb, sd, ln, pp], D) := by
    intro x2 x3 x5 D k
    induction k with
    | zero => intro x7 x9 o10 x1 q h hx; exact (zk_no h).elim
    | succ k ih =>
      intro x7 x9 o10 x1 q h hx
      rw [g_P_sumBy_19_6] at h
      refine hr.1 2 True _ _ (9, [some (.ref 19), some (.int x1), some (.int x2), some (.long x3), none, some (.long x5), none, some (.long x7), none, some (.int x9), o10], [.int x2, .int x9], [cb, sd, ln, pp], D) rfl trivial ?_
      refine hr.2.1 _ (x2 ≤ x9) _ _ rfl (fun c9 => ?_) (fun c9 => ?_)
      · replace h := zk_t h c9
        replace h := Option.some.inj h
        subst h
        exact hx x9 o10
      · replace h := zk_f h c9
        obtain ⟨w2, h⟩ := zk_ck h
        refine hr.1 9 True _ _ (25, [some (.ref 19), some (.int x1), some (.int x2), some (.long x3), none, some (.long x5), none, some (.long (x7 ^^^ (((zg_i D 19 (zn x9))).toInt64))), none, some (.int x9), some (.int 0)], [], [cb, sd, ln, pp], D) rfl ⟨trivial, (zk_vp w2)⟩ ?_
        obtain ⟨q1, hc, h⟩ := zk_bind h
        refine loop25 x2 x3 x5 x9 D 10000 (x7 ^^^ (((zg_i D 19 (zn x9))).toInt64)) 0 x1 q1 hc (fun e10 => ?_)
        clear hc
        refine hr.1 2 True _ _ (6, [some (.ref 19), some (.int x1), some (.int x2), some (.long x3), none, some (.long x5), none, some (.long q1), none, some (.int (x9 + 1)), some (.int e10)], [], [cb, sd, ln, pp], D) rfl trivial ?_
        exact ih q1 (x9 + 1)  _ _ _ h hx
  rw [g_P_sumBy_19] at h
  refine hr.1 4 True _ _ (6, [some (.ref 19), some (.int x1), some (.int x2), some (.long x3), none, some (.long x5), none, some (.long x3), none, some (.int x1), none], [], [cb, sd, ln, pp], D) rfl trivial ?_
  obtain ⟨q2, hc, h⟩ := zk_bind h
  refine loop6 x2 x3 x5 D 10000 x3 x1 none x1 q2 hc (fun e9 o10 => ?_)
  clear hc
  refine hr.1 3 True _ _ (73, [some (.ref 19), some (.int x1), some (.int x2), some (.long x3), none, some (.long x5), none, some (.long q2), none, some (.int e9), o10], [.long (q2 ^^^ x3)], [cb, sd, ln, pp], D) rfl trivial ?_
  exact hr.2.2.2 _ _ _ rfl trivial ⟨(congrArg (fun x => some (Value.long x)) (Option.some.inj h)), rfl⟩
set_option maxRecDepth 100000 in
set_option maxHeartbeats 4000000 in
theorem c_g_P_sumFour_19 {l : Launch} {E : zx_E} {d : Nat} {cb sd ln pp : Nat} {x1 : Int32} {x2 : Int32} {D : zx_D} {q : Int64} (h : g_P_sumFour_19 x1 x2 D = some q) : zx_MC l E 17 (d + 1) [.ref 19, .int x1, .int x2] ([cb, sd, ln, pp], D) (fun v S => v = some (.long q) ∧ S = ([cb, sd, ln, pp], D)) := by
  refine zx_ofC (K := ck_P_sumFour) rfl (by decide +kernel) rfl ok_P_sumFour (Nat.le_of_ble_eq_true rfl) (fun Zp hr => ?_)
  show Zp (0, [some (.ref 19), some (.int x1), some (.int x2)], [], [cb, sd, ln, pp], D)
  rw [g_P_sumFour_19] at h
  refine hr.1 5 True _ _ (9, [some (.ref 19), some (.int x1), some (.int x2)], [.long 3988292384, .long 4294967295, .int x2, .int x1, .ref 19], [cb, sd, ln, pp], D) rfl trivial ?_
  obtain ⟨q1, hc, h⟩ := zk_bind h
  refine hr.2.2.1 _ _ _ _ _ (d) rfl (by omega) (c_g_P_sumBy_19 (l := l) (E := E) (d := d) (cb := cb) (sd := sd) (ln := ln) (pp := pp) hc) (fun v S hq => ?_)
  obtain ⟨rfl, rfl⟩ := hq
  clear hc
  exact hr.2.2.2 _ _ _ rfl trivial ⟨(congrArg (fun x => some (Value.long x)) (Option.some.inj h)), rfl⟩
set_option maxRecDepth 100000 in
set_option maxHeartbeats 4000000 in
theorem c_g_Row_appendLowFirst_18 {l : Launch} {E : zx_E} {d : Nat} {cb sd ln pp : Nat} {x1 : Int64} {x3 : Int32} {D : zx_D} {q : zx_D} (h : g_Row_appendLowFirst_18 x1 x3 D = some q) : zx_MC l E 24 (d + 1) [.ref 18, .long x1, .int x3] ([cb, sd, ln, pp], D) (fun v S => v = none ∧ S = ([cb, sd, ln, pp], q)) := by
  refine zx_ofC (K := ck_Row_appendLowFirst) rfl (by decide +kernel) rfl ok_Row_appendLowFirst (Nat.le_of_ble_eq_true rfl) (fun Zp hr => ?_)
  show Zp (0, [some (.ref 18), some (.long x1), none, some (.int x3), none], [], [cb, sd, ln, pp], D)
  have loop3 : ∀ (x1 : Int64) (x3 : Int32) (k : Nat) (x4 : Int32) (D : zx_D) (q : zx_D), g_Row_appendLowFirst_18_3 x1 x3 k x4 D = some q → (∀ (e4 : Int32), Zp (31, [some (.ref 18), some (.long x1), none, some (.int x3), some (.int e4)], [], [cb, sd, ln, pp], q)) → Zp (3, [some (.ref 18), some (.long x1), none, some (.int x3), some (.int x4)], [], [cb, sd, ln, pp], D) := by
    intro x1 x3 k
    induction k with
    | zero => intro x4 D q h hx; exact (zk_no h).elim
    | succ k ih =>
      intro x4 D q h hx
      rw [g_Row_appendLowFirst_18_3] at h
      refine hr.1 2 True _ _ (6, [some (.ref 18), some (.long x1), none, some (.int x3), some (.int x4)], [.int x3, .int x4], [cb, sd, ln, pp], D) rfl trivial ?_
      refine hr.2.1 _ (x3 ≤ x4) _ _ rfl (fun c6 => ?_) (fun c6 => ?_)
      · replace h := zk_t h c6
        replace h := Option.some.inj h
        subst h
        exact hx x4
      · replace h := zk_f h c6
        refine hr.1 9 True _ _ (22, [some (.ref 18), some (.long x1), none, some (.int x3), some (.int x4)], [.int ((((zo_lushr x1 (8 * x4))).toInt32) &&& 255), .ref 18], [cb, sd, ln, pp], D) rfl trivial ?_
        obtain ⟨q1, hc, h⟩ := zk_bind h
        refine hr.2.2.1 _ _ _ _ _ (d) rfl (by omega) (c_g_Row_append_18 (l := l) (E := E) (d := d) (cb := cb) (sd := sd) (ln := ln) (pp := pp) hc) (fun v S hq => ?_)
        obtain ⟨rfl, rfl⟩ := hq
        clear hc
        refine hr.1 2 True _ _ (3, [some (.ref 18), some (.long x1), none, some (.int x3), some (.int (x4 + 1))], [], [cb, sd, ln, pp], q1) rfl trivial ?_
        exact ih (x4 + 1) q1 _ h hx
  rw [g_Row_appendLowFirst_18] at h
  refine hr.1 2 True _ _ (3, [some (.ref 18), some (.long x1), none, some (.int x3), some (.int 0)], [], [cb, sd, ln, pp], D) rfl trivial ?_
  obtain ⟨q2, hc, h⟩ := zk_bind h
  refine loop3 x1 x3 10000 0 D q2 hc (fun e4 => ?_)
  clear hc
  exact hr.2.2.2 _ _ _ rfl trivial ⟨rfl, (congrArg (fun x => (([cb, sd, ln, pp], x) : zx_S)) (Option.some.inj h))⟩
set_option maxRecDepth 100000 in
set_option maxHeartbeats 4000000 in
theorem c_g_Pkg_begin_1 {l : Launch} {E : zx_E} {d : Nat} {cb sd ln pp : Nat} {x2 : Int32} {x3 : Int32} {D : zx_D} {q : zx_D} (h : g_Pkg_begin_1 x2 x3 D = some q) : zx_MC l E 86 (d + 2) [.ref 17, .ref 1, .int x2, .int x3] ([cb, sd, ln, pp], D) (fun v S => v = none ∧ S = ([cb, sd, ln, 1], q)) := by
  refine zx_ofC (K := ck_Pkg_begin) rfl (by decide +kernel) rfl ok_Pkg_begin (Nat.le_of_ble_eq_true rfl) (fun Zp hr => ?_)
  show Zp (0, [some (.ref 17), some (.ref 1), some (.int x2), some (.int x3)], [], [cb, sd, ln, pp], D)
  rw [g_Pkg_begin_1] at h
  refine hr.1 11 True _ _ (19, [some (.ref 17), some (.ref 1), some (.int x2), some (.int x3)], [.ref 18], [cb, sd, ln, 1], zp_i (zp_i D 17 5 x2) 17 6 x3) rfl trivial ?_
  obtain ⟨q1, hc, h⟩ := zk_bind h
  refine hr.2.2.1 _ _ _ _ _ (d + 1) rfl (by omega) (c_g_Row_clear_18 (l := l) (E := E) (d := d + 1) (cb := cb) (sd := sd) (ln := ln) (pp := 1) hc) (fun v S hq => ?_)
  obtain ⟨rfl, rfl⟩ := hq
  clear hc
  refine hr.1 6 True _ _ (34, [some (.ref 17), some (.ref 1), some (.int x2), some (.int x3)], [.int 6, .int 0, .ref 23, .ref 18], [cb, sd, ln, 1], q1) rfl trivial ?_
  obtain ⟨q2, hc, h⟩ := zk_bind h
  refine hr.2.2.1 _ _ _ _ _ (d + 1) rfl (by omega) (c_g_Row_appendAll_18_23 (l := l) (E := E) (d := d) (cb := cb) (sd := sd) (ln := ln) (pp := 1) hc) (fun v S hq => ?_)
  obtain ⟨rfl, rfl⟩ := hq
  clear hc
  refine hr.1 3 True _ _ (42, [some (.ref 17), some (.ref 1), some (.int x2), some (.int x3)], [.int 0, .ref 18], [cb, sd, ln, 1], q2) rfl trivial ?_
  obtain ⟨q3, hc, h⟩ := zk_bind h
  refine hr.2.2.1 _ _ _ _ _ (d + 1) rfl (by omega) (c_g_Row_append_18 (l := l) (E := E) (d := d + 1) (cb := cb) (sd := sd) (ln := ln) (pp := 1) hc) (fun v S hq => ?_)
  obtain ⟨rfl, rfl⟩ := hq
  clear hc
  refine hr.1 4 True _ _ (53, [some (.ref 17), some (.ref 1), some (.int x2), some (.int x3)], [.int (zg_i q3 17 5), .ref 18], [cb, sd, ln, 1], q3) rfl trivial ?_
  obtain ⟨q4, hc, h⟩ := zk_bind h
  refine hr.2.2.1 _ _ _ _ _ (d + 1) rfl (by omega) (c_g_Row_append_18 (l := l) (E := E) (d := d + 1) (cb := cb) (sd := sd) (ln := ln) (pp := 1) hc) (fun v S hq => ?_)
  obtain ⟨rfl, rfl⟩ := hq
  clear hc
  refine hr.1 7 True _ _ (71, [some (.ref 17), some (.ref 1), some (.int x2), some (.int x3)], [.int 8, .int 6, .ref 19, .ref 18], [cb, sd, ln, 1], q4) rfl trivial ?_
  obtain ⟨q5, hc, h⟩ := zk_bind h
  refine hr.2.2.1 _ _ _ _ _ (d + 1) rfl (by omega) (c_g_P_sumFour_19 (l := l) (E := E) (d := d) (cb := cb) (sd := sd) (ln := ln) (pp := 1) hc) (fun v S hq => ?_)
  obtain ⟨rfl, rfl⟩ := hq
  clear hc
  refine hr.1 1 True _ _ (75, [some (.ref 17), some (.ref 1), some (.int x2), some (.int x3)], [.int 4, .long q5, .ref 18], [cb, sd, ln, 1], q4) rfl trivial ?_
  obtain ⟨q6, hc, h⟩ := zk_bind h
  refine hr.2.2.1 _ _ _ _ _ (d + 1) rfl (by omega) (c_g_Row_appendLowFirst_18 (l := l) (E := E) (d := d) (cb := cb) (sd := sd) (ln := ln) (pp := 1) hc) (fun v S hq => ?_)
  obtain ⟨rfl, rfl⟩ := hq
  clear hc
  exact hr.2.2.2 _ _ _ rfl trivial ⟨rfl, (congrArg (fun x => (([cb, sd, ln, 1], x) : zx_S)) (Option.some.inj h))⟩
set_option maxRecDepth 100000 in
set_option maxHeartbeats 4000000 in
theorem c_g_Pkg_writeHead {l : Launch} {E : zx_E} {d : Nat} {cb sd ln pp : Nat} {D : zx_D} {q : zx_D} (h : g_Pkg_writeHead D = some q) : zx_MC l E 87 (d + 2) [.ref 17] ([cb, sd, ln, pp], D) (fun v S => v = none ∧ S = ([cb, sd, ln, pp], q)) := by
  refine zx_ofC (K := ck_Pkg_writeHead) rfl (by decide +kernel) rfl ok_Pkg_writeHead (Nat.le_of_ble_eq_true rfl) (fun Zp hr => ?_)
  show Zp (0, [some (.ref 17)], [], [cb, sd, ln, pp], D)
  rw [g_Pkg_writeHead] at h
  refine hr.1 17 True _ _ (31, [some (.ref 17)], [.int 2, .ref 18], [cb, sd, ln, pp], zp_i (zp_i (zp_i (zp_i D 17 7 (zg_i D 18 1)) 17 10 1) 17 11 1) 17 12 1) rfl ⟨⟨⟨trivial, (Or.inr rfl)⟩, (Or.inr rfl)⟩, (Or.inr rfl)⟩ ?_
  obtain ⟨q1, hc, h⟩ := zk_bind h
  refine hr.2.2.1 _ _ _ _ _ (d + 1) rfl (by omega) (c_g_Row_append_18 (l := l) (E := E) (d := d + 1) (cb := cb) (sd := sd) (ln := ln) (pp := pp) hc) (fun v S hq => ?_)
  obtain ⟨rfl, rfl⟩ := hq
  clear hc
  refine hr.1 3 True _ _ (39, [some (.ref 17)], [.int 0, .ref 18], [cb, sd, ln, pp], q1) rfl trivial ?_
  obtain ⟨q2, hc, h⟩ := zk_bind h
  refine hr.2.2.1 _ _ _ _ _ (d + 1) rfl (by omega) (c_g_Row_append_18 (l := l) (E := E) (d := d + 1) (cb := cb) (sd := sd) (ln := ln) (pp := pp) hc) (fun v S hq => ?_)
  obtain ⟨rfl, rfl⟩ := hq
  clear hc
  refine hr.1 3 True _ _ (48, [some (.ref 17)], [.int 33, .ref 18], [cb, sd, ln, pp], q2) rfl trivial ?_
  obtain ⟨q3, hc, h⟩ := zk_bind h
  refine hr.2.2.1 _ _ _ _ _ (d + 1) rfl (by omega) (c_g_Row_append_18 (l := l) (E := E) (d := d + 1) (cb := cb) (sd := sd) (ln := ln) (pp := pp) hc) (fun v S hq => ?_)
  obtain ⟨rfl, rfl⟩ := hq
  clear hc
  refine hr.1 3 True _ _ (56, [some (.ref 17)], [.int 1, .ref 18], [cb, sd, ln, pp], q3) rfl trivial ?_
  obtain ⟨q4, hc, h⟩ := zk_bind h
  refine hr.2.2.1 _ _ _ _ _ (d + 1) rfl (by omega) (c_g_Row_append_18 (l := l) (E := E) (d := d + 1) (cb := cb) (sd := sd) (ln := ln) (pp := pp) hc) (fun v S hq => ?_)
  obtain ⟨rfl, rfl⟩ := hq
  clear hc
  refine hr.1 4 True _ _ (65, [some (.ref 17)], [.int 4, .long 0, .ref 18], [cb, sd, ln, pp], q4) rfl trivial ?_
  obtain ⟨q5, hc, h⟩ := zk_bind h
  refine hr.2.2.1 _ _ _ _ _ (d + 1) rfl (by omega) (c_g_Row_appendLowFirst_18 (l := l) (E := E) (d := d) (cb := cb) (sd := sd) (ln := ln) (pp := pp) hc) (fun v S hq => ?_)
  obtain ⟨rfl, rfl⟩ := hq
  clear hc
  refine hr.1 10 True _ _ (90, [some (.ref 17)], [.int (zg_i q5 18 1), .int (zg_i q5 17 7), .ref 19, .ref 18], [cb, sd, ln, pp], q5) rfl trivial ?_
  obtain ⟨q6, hc, h⟩ := zk_bind h
  refine hr.2.2.1 _ _ _ _ _ (d + 1) rfl (by omega) (c_g_P_sumFour_19 (l := l) (E := E) (d := d) (cb := cb) (sd := sd) (ln := ln) (pp := pp) hc) (fun v S hq => ?_)
  obtain ⟨rfl, rfl⟩ := hq
  clear hc
  refine hr.1 1 True _ _ (94, [some (.ref 17)], [.int 4, .long q6, .ref 18], [cb, sd, ln, pp], q5) rfl trivial ?_
  obtain ⟨q7, hc, h⟩ := zk_bind h
  refine hr.2.2.1 _ _ _ _ _ (d + 1) rfl (by omega) (c_g_Row_appendLowFirst_18 (l := l) (E := E) (d := d) (cb := cb) (sd := sd) (ln := ln) (pp := pp) hc) (fun v S hq => ?_)
  obtain ⟨rfl, rfl⟩ := hq
  clear hc
  exact hr.2.2.2 _ _ _ rfl trivial ⟨rfl, (congrArg (fun x => (([cb, sd, ln, pp], x) : zx_S)) (Option.some.inj h))⟩
set_option maxRecDepth 100000 in
set_option maxHeartbeats 4000000 in
theorem c_g_Arr_fill2_21 {l : Launch} {E : zx_E} {d : Nat} {cb sd ln pp : Nat} {x1 : Int32} {D : zx_D} {q : zx_D} (h : g_Arr_fill2_21 x1 D = some q) : zx_MC l E 183 d [.ref 21, .int x1] ([cb, sd, ln, pp], D) (fun v S => v = none ∧ S = ([cb, sd, ln, pp], q)) := by
  refine zx_ofC (K := ck_Arr_fill2) rfl (by decide +kernel) rfl ok_Arr_fill2 (Nat.le_of_ble_eq_true rfl) (fun Zp hr => ?_)
  show Zp (0, [some (.ref 21), some (.int x1), none, none], [], [cb, sd, ln, pp], D)
  have loop5 : ∀ (x1 : Int32) (x3 : Int32) (k : Nat) (x2 : Int32) (D : zx_D) (q : zx_D), g_Arr_fill2_21_5 x1 x3 k x2 D = some q → (∀ (e2 : Int32), Zp (20, [some (.ref 21), some (.int x1), some (.int e2), some (.int x3)], [], [cb, sd, ln, pp], q)) → Zp (5, [some (.ref 21), some (.int x1), some (.int x2), some (.int x3)], [], [cb, sd, ln, pp], D) := by
    intro x1 x3 k
    induction k with
    | zero => intro x2 D q h hx; exact (zk_no h).elim
    | succ k ih =>
      intro x2 D q h hx
      rw [g_Arr_fill2_21_5] at h
      refine hr.1 2 True _ _ (7, [some (.ref 21), some (.int x1), some (.int x2), some (.int x3)], [.int x3, .int x2], [cb, sd, ln, pp], D) rfl trivial ?_
      refine hr.2.1 _ (x3 ≤ x2) _ _ rfl (fun c7 => ?_) (fun c7 => ?_)
      · replace h := zk_t h c7
        replace h := Option.some.inj h
        subst h
        exact hx x2
      · replace h := zk_f h c7
        obtain ⟨w2, h⟩ := zk_ck h
        refine hr.1 6 True _ _ (5, [some (.ref 21), some (.int x1), some (.int (x2 + 1)), some (.int x3)], [], [cb, sd, ln, pp], zp_i D 21 (zn x2) x1) rfl ⟨trivial, (zk_vp w2)⟩ ?_
        exact ih (x2 + 1) (zp_i D 21 (zn x2) x1) _ h hx
  rw [g_Arr_fill2_21] at h
  refine hr.1 5 True _ _ (5, [some (.ref 21), some (.int x1), some (.int 0), some (.int 400)], [], [cb, sd, ln, pp], D) rfl trivial ?_
  obtain ⟨q1, hc, h⟩ := zk_bind h
  refine loop5 x1 400 10000 0 D q1 hc (fun e2 => ?_)
  clear hc
  exact hr.2.2.2 _ _ _ rfl trivial ⟨rfl, (congrArg (fun x => (([cb, sd, ln, pp], x) : zx_S)) (Option.some.inj h))⟩
set_option maxRecDepth 100000 in
set_option maxHeartbeats 4000000 in
theorem c_g_Snk_begin {l : Launch} {E : zx_E} {d : Nat} {cb sd ln pp : Nat} {x1 : Int32} {D : zx_D} {q : zx_D} (h : g_Snk_begin x1 D = some q) : zx_MC l E 50 (d + 1) [.ref 20, .int x1] ([cb, sd, ln, pp], D) (fun v S => v = none ∧ S = ([cb, sd, ln, pp], q)) := by
  refine zx_ofC (K := ck_Snk_begin) rfl (by decide +kernel) rfl ok_Snk_begin (Nat.le_of_ble_eq_true rfl) (fun Zp hr => ?_)
  show Zp (0, [some (.ref 20), some (.int x1)], [], [cb, sd, ln, pp], D)
  rw [g_Snk_begin] at h
  refine hr.1 11 True _ _ (19, [some (.ref 20), some (.int x1)], [.int 5, .int (if 400 < x1 then 400 else x1), .ref 20], [cb, sd, ln, pp], zp_i D 20 5 (if 400 < x1 then 400 else x1)) rfl trivial ?_
  obtain ⟨q1, hj, h⟩ := zk_bind h
  have J27 : ∀ (_ : True), Zp (27, [some (.ref 20), some (.int x1)], [.int q1, .ref 20], [cb, sd, ln, pp], zp_i D 20 5 (if 400 < x1 then 400 else x1)) := by
    intro _
    obtain ⟨w2, h⟩ := zk_ck h
    refine hr.1 10 True _ _ (47, [some (.ref 20), some (.int x1)], [.int 0, .ref 21], [cb, sd, ln, pp], zp_l (zp_i (zp_i (zp_i D 20 5 (if 400 < x1 then 400 else x1)) 20 2 q1) 20 4 5) 20 1 4294967295) rfl ⟨trivial, w2⟩ ?_
    obtain ⟨q2, hc, h⟩ := zk_bind h
    refine hr.2.2.1 _ _ _ _ _ (d) rfl (by omega) (c_g_Arr_fill2_21 (l := l) (E := E) (d := d) (cb := cb) (sd := sd) (ln := ln) (pp := pp) hc) (fun v S hq => ?_)
    obtain ⟨rfl, rfl⟩ := hq
    clear hc
    exact hr.2.2.2 _ _ _ rfl trivial ⟨rfl, (congrArg (fun x => (([cb, sd, ln, pp], x) : zx_S)) (Option.some.inj h))⟩
  clear h
  have h := hj
  clear hj
  refine hr.2.1 _ (5 ≤ (if 400 < x1 then 400 else x1)) _ _ rfl (fun c19 => ?_) (fun c19 => ?_)
  · replace h := zk_t h c19
    refine hr.1 1 True _ _ (27, [some (.ref 20), some (.int x1)], [.int 0, .ref 20], [cb, sd, ln, pp], zp_i D 20 5 (if 400 < x1 then 400 else x1)) rfl trivial ?_
    replace h := Option.some.inj h
    subst h
    exact J27 trivial
  · replace h := zk_f h c19
    refine hr.1 2 True _ _ (27, [some (.ref 20), some (.int x1)], [.int 1, .ref 20], [cb, sd, ln, pp], zp_i D 20 5 (if 400 < x1 then 400 else x1)) rfl trivial ?_
    replace h := Option.some.inj h
    subst h
    exact J27 trivial
set_option maxRecDepth 100000 in
set_option maxHeartbeats 4000000 in
theorem c_g_Mdl_setProperties {l : Launch} {E : zx_E} {d : Nat} {cb sd ln pp : Nat} {x1 : Int32} {D : zx_D} {q : zx_D} (h : g_Mdl_setProperties x1 D = some q) : zx_MC l E 56 d [.ref 7, .int x1] ([cb, sd, ln, pp], D) (fun v S => v = none ∧ S = ([cb, sd, ln, pp], q)) := by
  refine zx_ofC (K := ck_Mdl_setProperties) rfl (by decide +kernel) rfl ok_Mdl_setProperties (Nat.le_of_ble_eq_true rfl) (fun Zp hr => ?_)
  show Zp (0, [some (.ref 7), some (.int x1)], [], [cb, sd, ln, pp], D)
  rw [g_Mdl_setProperties] at h
  refine hr.1 17 True _ _ (26, [some (.ref 7), some (.int x1)], [], [cb, sd, ln, pp], zp_i (zp_i (zp_i D 7 3 (zo_rem x1 9)) 7 4 (zo_rem (x1 / 9) 5)) 7 5 (x1 / 45)) rfl trivial ?_
  exact hr.2.2.2 _ _ _ rfl trivial ⟨rfl, (congrArg (fun x => (([cb, sd, ln, pp], x) : zx_S)) (Option.some.inj h))⟩
set_option maxRecDepth 100000 in
set_option maxHeartbeats 4000000 in
theorem c_g_Arr_rangeCheck {l : Launch} {E : zx_E} {d : Nat} {cb sd ln pp : Nat} {x0 : Int32} {x1 : Int32} {x2 : Int32} {D : zx_D} {q : Unit} (h : g_Arr_rangeCheck x0 x1 x2 D = some q) : zx_MC l E 181 d [.int x0, .int x1, .int x2] ([cb, sd, ln, pp], D) (fun v S => v = none ∧ S = ([cb, sd, ln, pp], D)) := by
  refine zx_ofC (K := ck_Arr_rangeCheck) rfl (by decide +kernel) rfl ok_Arr_rangeCheck (Nat.le_of_ble_eq_true rfl) (fun Zp hr => ?_)
  show Zp (0, [some (.int x0), some (.int x1), some (.int x2)], [], [cb, sd, ln, pp], D)
  rw [g_Arr_rangeCheck] at h
  refine hr.1 2 True _ _ (2, [some (.int x0), some (.int x1), some (.int x2)], [.int x2, .int x1], [cb, sd, ln, pp], D) rfl trivial ?_
  refine hr.2.1 _ (x1 ≤ x2) _ _ rfl (fun c2 => ?_) (fun c2 => ?_)
  · replace h := zk_t h c2
    refine hr.1 1 True _ _ (47, [some (.int x0), some (.int x1), some (.int x2)], [.int x1], [cb, sd, ln, pp], D) rfl trivial ?_
    refine hr.2.1 _ (0 ≤ x1) _ _ rfl (fun c47 => ?_) (fun c47 => ?_)
    · replace h := zk_t h c47
      refine hr.1 2 True _ _ (61, [some (.int x0), some (.int x1), some (.int x2)], [.int x0, .int x2], [cb, sd, ln, pp], D) rfl trivial ?_
      refine hr.2.1 _ (x2 ≤ x0) _ _ rfl (fun c61 => ?_) (fun c61 => ?_)
      · replace h := zk_t h c61
        exact hr.2.2.2 _ _ _ rfl trivial ⟨rfl, rfl⟩
      · replace h := zk_f h c61
        exact (zk_no h).elim
    · replace h := zk_f h c47
      exact (zk_no h).elim
  · replace h := zk_f h c2
    exact (zk_no h).elim
set_option maxRecDepth 100000 in
set_option maxHeartbeats 4000000 in
theorem c_g_Arr_fill3_6 {l : Launch} {E : zx_E} {d : Nat} {cb sd ln pp : Nat} {x1 : Int32} {x2 : Int32} {x3 : Int32} {D : zx_D} {q : zx_D} (h : g_Arr_fill3_6 x1 x2 x3 D = some q) : zx_MC l E 184 (d + 1) [.ref 6, .int x1, .int x2, .int x3] ([cb, sd, ln, pp], D) (fun v S => v = none ∧ S = ([cb, sd, ln, pp], q)) := by
  refine zx_ofC (K := ck_Arr_fill3) rfl (by decide +kernel) rfl ok_Arr_fill3 (Nat.le_of_ble_eq_true rfl) (fun Zp hr => ?_)
  show Zp (0, [some (.ref 6), some (.int x1), some (.int x2), some (.int x3), none], [], [cb, sd, ln, pp], D)
  have loop10 : ∀ (x2 : Int32) (x3 : Int32) (k : Nat) (x4 : Int32) (D : zx_D) (x1 : Int32) (q : zx_D), g_Arr_fill3_6_10 x2 x3 k x4 D = some q → (∀ (e4 : Int32), Zp (27, [some (.ref 6), some (.int x1), some (.int x2), some (.int x3), some (.int e4)], [], [cb, sd, ln, pp], q)) → Zp (10, [some (.ref 6), some (.int x1), some (.int x2), some (.int x3), some (.int x4)], [], [cb, sd, ln, pp], D) := by
    intro x2 x3 k
    induction k with
    | zero => intro x4 D x1 q h hx; exact (zk_no h).elim
    | succ k ih =>
      intro x4 D x1 q h hx
      rw [g_Arr_fill3_6_10] at h
      refine hr.1 2 True _ _ (13, [some (.ref 6), some (.int x1), some (.int x2), some (.int x3), some (.int x4)], [.int x2, .int x4], [cb, sd, ln, pp], D) rfl trivial ?_
      refine hr.2.1 _ (x2 ≤ x4) _ _ rfl (fun c13 => ?_) (fun c13 => ?_)
      · replace h := zk_t h c13
        replace h := Option.some.inj h
        subst h
        exact hx x4
      · replace h := zk_f h c13
        obtain ⟨w2, h⟩ := zk_ck h
        refine hr.1 6 True _ _ (10, [some (.ref 6), some (.int x1), some (.int x2), some (.int x3), some (.int (x4 + 1))], [], [cb, sd, ln, pp], zp_i D 6 (zn x4) x3) rfl ⟨trivial, (zk_vp w2)⟩ ?_
        exact ih (x4 + 1) (zp_i D 6 (zn x4) x3) _ _ h hx
  rw [g_Arr_fill3_6] at h
  refine hr.1 4 True _ _ (4, [some (.ref 6), some (.int x1), some (.int x2), some (.int x3), none], [.int x2, .int x1, .int 8196], [cb, sd, ln, pp], D) rfl trivial ?_
  obtain ⟨q1, hc, h⟩ := zk_bind h
  refine hr.2.2.1 _ _ _ _ _ (d) rfl (by omega) (c_g_Arr_rangeCheck (l := l) (E := E) (d := d) (cb := cb) (sd := sd) (ln := ln) (pp := pp) hc) (fun v S hq => ?_)
  obtain ⟨rfl, rfl⟩ := hq
  clear hc
  refine hr.1 2 True _ _ (10, [some (.ref 6), some (.int x1), some (.int x2), some (.int x3), some (.int x1)], [], [cb, sd, ln, pp], D) rfl trivial ?_
  obtain ⟨q2, hc, h⟩ := zk_bind h
  refine loop10 x2 x3 10000 x1 D x1 q2 hc (fun e4 => ?_)
  clear hc
  exact hr.2.2.2 _ _ _ rfl trivial ⟨rfl, (congrArg (fun x => (([cb, sd, ln, pp], x) : zx_S)) (Option.some.inj h))⟩
set_option maxRecDepth 100000 in
set_option maxHeartbeats 4000000 in
theorem c_g_Arr_fill_8 {l : Launch} {E : zx_E} {d : Nat} {cb sd ln pp : Nat} {x1 : Int64} {D : zx_D} {q : zx_D} (h : g_Arr_fill_8 x1 D = some q) : zx_MC l E 182 d [.ref 8, .long x1] ([cb, sd, ln, pp], D) (fun v S => v = none ∧ S = ([cb, sd, ln, pp], q)) := by
  refine zx_ofC (K := ck_Arr_fill) rfl (by decide +kernel) rfl ok_Arr_fill (Nat.le_of_ble_eq_true rfl) (fun Zp hr => ?_)
  show Zp (0, [some (.ref 8), some (.long x1), none, none, none], [], [cb, sd, ln, pp], D)
  have loop6 : ∀ (x1 : Int64) (x4 : Int32) (k : Nat) (x3 : Int32) (D : zx_D) (q : zx_D), g_Arr_fill_8_6 x1 x4 k x3 D = some q → (∀ (e3 : Int32), Zp (22, [some (.ref 8), some (.long x1), none, some (.int e3), some (.int x4)], [], [cb, sd, ln, pp], q)) → Zp (6, [some (.ref 8), some (.long x1), none, some (.int x3), some (.int x4)], [], [cb, sd, ln, pp], D) := by
    intro x1 x4 k
    induction k with
    | zero => intro x3 D q h hx; exact (zk_no h).elim
    | succ k ih =>
      intro x3 D q h hx
      rw [g_Arr_fill_8_6] at h
      refine hr.1 2 True _ _ (9, [some (.ref 8), some (.long x1), none, some (.int x3), some (.int x4)], [.int x4, .int x3], [cb, sd, ln, pp], D) rfl trivial ?_
      refine hr.2.1 _ (x4 ≤ x3) _ _ rfl (fun c9 => ?_) (fun c9 => ?_)
      · replace h := zk_t h c9
        replace h := Option.some.inj h
        subst h
        exact hx x3
      · replace h := zk_f h c9
        obtain ⟨w2, h⟩ := zk_ck h
        refine hr.1 6 True _ _ (6, [some (.ref 8), some (.long x1), none, some (.int (x3 + 1)), some (.int x4)], [], [cb, sd, ln, pp], zp_l D 8 (zn x3) x1) rfl ⟨trivial, (zk_vp w2)⟩ ?_
        exact ih (x3 + 1) (zp_l D 8 (zn x3) x1) _ h hx
  rw [g_Arr_fill_8] at h
  refine hr.1 5 True _ _ (6, [some (.ref 8), some (.long x1), none, some (.int 0), some (.int 4)], [], [cb, sd, ln, pp], D) rfl trivial ?_
  obtain ⟨q1, hc, h⟩ := zk_bind h
  refine loop6 x1 4 10000 0 D q1 hc (fun e3 => ?_)
  clear hc
  exact hr.2.2.2 _ _ _ rfl trivial ⟨rfl, (congrArg (fun x => (([cb, sd, ln, pp], x) : zx_S)) (Option.some.inj h))⟩
set_option maxRecDepth 100000 in
set_option maxHeartbeats 4000000 in
theorem c_g_Mdl_beginAnew {l : Launch} {E : zx_E} {d : Nat} {cb sd ln pp : Nat} {D : zx_D} {q : zx_D} (h : g_Mdl_beginAnew D = some q) : zx_MC l E 57 (d + 2) [.ref 7] ([cb, sd, ln, pp], D) (fun v S => v = none ∧ S = ([cb, sd, ln, pp], q)) := by
  refine zx_ofC (K := ck_Mdl_beginAnew) rfl (by decide +kernel) rfl ok_Mdl_beginAnew (Nat.le_of_ble_eq_true rfl) (fun Zp hr => ?_)
  show Zp (0, [some (.ref 7)], [], [cb, sd, ln, pp], D)
  rw [g_Mdl_beginAnew] at h
  refine hr.1 13 True _ _ (25, [some (.ref 7)], [.int 1024, .int (2052 + (zo_shl 768 ((zg_i D 7 3) + (zg_i D 7 4)))), .int 0, .ref 6], [cb, sd, ln, pp], D) rfl trivial ?_
  obtain ⟨q1, hc, h⟩ := zk_bind h
  refine hr.2.2.1 _ _ _ _ _ (d + 1) rfl (by omega) (c_g_Arr_fill3_6 (l := l) (E := E) (d := d) (cb := cb) (sd := sd) (ln := ln) (pp := pp) hc) (fun v S hq => ?_)
  obtain ⟨rfl, rfl⟩ := hq
  clear hc
  refine hr.1 3 True _ _ (33, [some (.ref 7)], [.long 1, .ref 8], [cb, sd, ln, pp], q1) rfl trivial ?_
  obtain ⟨q2, hc, h⟩ := zk_bind h
  refine hr.2.2.1 _ _ _ _ _ (d + 1) rfl (by omega) (c_g_Arr_fill_8 (l := l) (E := E) (d := d + 1) (cb := cb) (sd := sd) (ln := ln) (pp := pp) hc) (fun v S hq => ?_)
  obtain ⟨rfl, rfl⟩ := hq
  clear hc
  refine hr.1 3 True _ _ (41, [some (.ref 7)], [], [cb, sd, ln, pp], zp_i q2 7 2 0) rfl trivial ?_
  exact hr.2.2.2 _ _ _ rfl trivial ⟨rfl, (congrArg (fun x => (([cb, sd, ln, pp], x) : zx_S)) (Option.some.inj h))⟩
set_option maxRecDepth 100000 in
set_option maxHeartbeats 4000000 in
theorem c_g_Mdl_useLine_20 {l : Launch} {E : zx_E} {d : Nat} {cb sd ln pp : Nat} {D : zx_D} {q : Unit} (h : g_Mdl_useLine_20 D = some q) : zx_MC l E 58 d [.ref 7, .ref 20] ([cb, sd, ln, pp], D) (fun v S => v = none ∧ S = ([cb, sd, 20, pp], D)) := by
  refine zx_ofC (K := ck_Mdl_useLine) rfl (by decide +kernel) rfl ok_Mdl_useLine (Nat.le_of_ble_eq_true rfl) (fun Zp hr => ?_)
  show Zp (0, [some (.ref 7), some (.ref 20)], [], [cb, sd, ln, pp], D)
  rw [g_Mdl_useLine_20] at h
  refine hr.1 3 True _ _ (5, [some (.ref 7), some (.ref 20)], [], [cb, sd, 20, pp], D) rfl trivial ?_
  exact hr.2.2.2 _ _ _ rfl trivial ⟨rfl, rfl⟩
set_option maxRecDepth 100000 in
set_option maxHeartbeats 4000000 in
theorem c_g_Pkg_sameBytes {l : Launch} {E : zx_E} {d : Nat} {cb sd ln : Nat} {x1 : Int32} {x2 : Int64} {x4 : Int32} {D : zx_D} {q : Int32} (h : g_Pkg_sameBytes x1 x2 x4 D = some q) : zx_MC l E 96 d [.ref 17, .int x1, .long x2, .int x4] ([cb, sd, ln, 1], D) (fun v S => v = some (.int q) ∧ S = ([cb, sd, ln, 1], D)) := by
  refine zx_ofC (K := ck_Pkg_sameBytes) rfl (by decide +kernel) rfl ok_Pkg_sameBytes (Nat.le_of_ble_eq_true rfl) (fun Zp hr => ?_)
  show Zp (0, [some (.ref 17), some (.int x1), some (.long x2), none, some (.int x4), none, none, none], [], [cb, sd, ln, 1], D)
  have loop21 : ∀ (x1 : Int32) (x4 : Int32) (x5 : Int32) (D : zx_D) (k : Nat) (x6 : Int32) (x7 : Int32) (x2 : Int64) (q : Int32), g_Pkg_sameBytes_21 x1 x4 x5 D k x6 x7 = some q → (∀ (e7 : Int32), Zp (65, [some (.ref 17), some (.int x1), some (.long x2), none, some (.int x4), some (.int x5), some (.int q), some (.int e7)], [], [cb, sd, ln, 1], D)) → Zp (21, [some (.ref 17), some (.int x1), some (.long x2), none, some (.int x4), some (.int x5), some (.int x6), some (.int x7)], [], [cb, sd, ln, 1], D) := by
    intro x1 x4 x5 D k
    induction k with
    | zero => intro x6 x7 x2 q h hx; exact (zk_no h).elim
    | succ k ih =>
      intro x6 x7 x2 q h hx
      rw [g_Pkg_sameBytes_21] at h
      refine hr.1 2 True _ _ (25, [some (.ref 17), some (.int x1), some (.long x2), none, some (.int x4), some (.int x5), some (.int x6), some (.int x7)], [.int x4, .int x7], [cb, sd, ln, 1], D) rfl trivial ?_
      refine hr.2.1 _ (x4 ≤ x7) _ _ rfl (fun c25 => ?_) (fun c25 => ?_)
      · replace h := zk_t h c25
        replace h := Option.some.inj h
        subst h
        exact hx x7
      · replace h := zk_f h c25
        obtain ⟨w3, h⟩ := zk_ck h
        obtain ⟨w4, h⟩ := zk_ck h
        refine hr.1 14 True _ _ (53, [some (.ref 17), some (.int x1), some (.long x2), none, some (.int x4), some (.int x5), some (.int x6), some (.int x7)], [.int (zg_i D 2 (zn (x1 + x7))), .int (zg_i D 2 (zn (x5 + x7)))], [cb, sd, ln, 1], D) rfl ⟨⟨trivial, (zk_vp w3)⟩, (zk_vp w4)⟩ ?_
        refine hr.2.1 _ (¬ zg_i D 2 (zn (x5 + x7)) = zg_i D 2 (zn (x1 + x7))) _ _ rfl (fun c53 => ?_) (fun c53 => ?_)
        · replace h := zk_t h c53
          replace h := Option.some.inj h
          subst h
          exact hx x7
        · replace h := zk_f h c53
          refine hr.1 3 True _ _ (21, [some (.ref 17), some (.int x1), some (.long x2), none, some (.int x4), some (.int x5), some (.int (x6 + 1)), some (.int (x7 + 1))], [], [cb, sd, ln, 1], D) rfl trivial ?_
          exact ih (x6 + 1) (x7 + 1)  _ _ h hx
  rw [g_Pkg_sameBytes] at h
  refine hr.1 3 True _ _ (3, [some (.ref 17), some (.int x1), some (.long x2), none, some (.int x4), none, none, none], [.long ((x1).toInt64), .long x2], [cb, sd, ln, 1], D) rfl trivial ?_
  refine hr.2.1 _ (x2 ≤ (x1).toInt64) _ _ rfl (fun c3 => ?_) (fun c3 => ?_)
  · replace h := zk_t h c3
    refine hr.1 9 True _ _ (21, [some (.ref 17), some (.int x1), some (.long x2), none, some (.int x4), some (.int (x1 - ((x2).toInt32))), some (.int 0), some (.int 0)], [], [cb, sd, ln, 1], D) rfl trivial ?_
    obtain ⟨q1, hc, h⟩ := zk_bind h
    refine loop21 x1 x4 (x1 - ((x2).toInt32)) D 10000 0 0 x2 q1 hc (fun e7 => ?_)
    clear hc
    refine hr.1 1 True _ _ (67, [some (.ref 17), some (.int x1), some (.long x2), none, some (.int x4), some (.int (x1 - ((x2).toInt32))), some (.int q1), some (.int e7)], [.int q1], [cb, sd, ln, 1], D) rfl trivial ?_
    exact hr.2.2.2 _ _ _ rfl trivial ⟨(congrArg (fun x => some (Value.int x)) (Option.some.inj h)), rfl⟩
  · replace h := zk_f h c3
    refine hr.1 1 True _ _ (8, [some (.ref 17), some (.int x1), some (.long x2), none, some (.int x4), none, none, none], [.int 0], [cb, sd, ln, 1], D) rfl trivial ?_
    exact hr.2.2.2 _ _ _ rfl trivial ⟨(congrArg (fun x => some (Value.int x)) (Option.some.inj h)), rfl⟩
set_option maxRecDepth 100000 in
set_option maxHeartbeats 4000000 in
theorem c_g_Pkg_searchMatch {l : Launch} {E : zx_E} {d : Nat} {cb sd ln : Nat} {x1 : Int32} {x2 : Int32} {D : zx_D} {q : zx_D} (h : g_Pkg_searchMatch x1 x2 D = some q) : zx_MC l E 94 (d + 1) [.ref 17, .int x1, .int x2] ([cb, sd, ln, 1], D) (fun v S => v = none ∧ S = ([cb, sd, ln, 1], q)) := by
  refine zx_ofC (K := ck_Pkg_searchMatch) rfl (by decide +kernel) rfl ok_Pkg_searchMatch (Nat.le_of_ble_eq_true rfl) (fun Zp hr => ?_)
  show Zp (0, [some (.ref 17), some (.int x1), some (.int x2), none, none], [], [cb, sd, ln, 1], D)
  have loop7 : ∀ (x1 : Int32) (x2 : Int32) (k : Nat) (x3 : Int32) (D : zx_D) (o4 : Option Value) (q : zx_D), g_Pkg_searchMatch_7 x1 x2 k x3 D = some q → (∀ (e3 : Int32) (o4 : Option Value), Zp (56, [some (.ref 17), some (.int x1), some (.int x2), some (.int e3), o4], [], [cb, sd, ln, 1], q)) → Zp (7, [some (.ref 17), some (.int x1), some (.int x2), some (.int x3), o4], [], [cb, sd, ln, 1], D) := by
    intro x1 x2 k
    induction k with
    | zero => intro x3 D o4 q h hx; exact (zk_no h).elim
    | succ k ih =>
      intro x3 D o4 q h hx
      rw [g_Pkg_searchMatch_7] at h
      refine hr.1 2 True _ _ (9, [some (.ref 17), some (.int x1), some (.int x2), some (.int x3), o4], [.int x1, .int x3], [cb, sd, ln, 1], D) rfl trivial ?_
      refine hr.2.1 _ (x1 < x3) _ _ rfl (fun c9 => ?_) (fun c9 => ?_)
      · replace h := zk_t h c9
        replace h := Option.some.inj h
        subst h
        exact hx x3 o4
      · replace h := zk_f h c9
        refine hr.1 3 True _ _ (17, [some (.ref 17), some (.int x1), some (.int x2), some (.int x3), o4], [.int x2, .int (zg_i D 17 13)], [cb, sd, ln, 1], D) rfl trivial ?_
        refine hr.2.1 _ (x2 ≤ zg_i D 17 13) _ _ rfl (fun c17 => ?_) (fun c17 => ?_)
        · replace h := zk_t h c17
          replace h := Option.some.inj h
          subst h
          exact hx x3 o4
        · replace h := zk_f h c17
          refine hr.1 5 True _ _ (25, [some (.ref 17), some (.int x1), some (.int x2), some (.int x3), o4], [.int x2, .long ((x3).toInt64), .int x1, .ref 17], [cb, sd, ln, 1], D) rfl trivial ?_
          obtain ⟨q1, hc, h⟩ := zk_bind h
          refine hr.2.2.1 _ _ _ _ _ (d) rfl (by omega) (c_g_Pkg_sameBytes (l := l) (E := E) (d := d) (cb := cb) (sd := sd) (ln := ln) hc) (fun v S hq => ?_)
          obtain ⟨rfl, rfl⟩ := hq
          clear hc
          refine hr.1 4 True _ _ (36, [some (.ref 17), some (.int x1), some (.int x2), some (.int x3), some (.int q1)], [.int (zg_i D 17 13), .int q1], [cb, sd, ln, 1], D) rfl trivial ?_
          refine hr.2.1 _ (q1 ≤ zg_i D 17 13) _ _ rfl (fun c36 => ?_) (fun c36 => ?_)
          · replace h := zk_t h c36
            refine hr.1 2 True _ _ (7, [some (.ref 17), some (.int x1), some (.int x2), some (.int (x3 + 1)), some (.int q1)], [], [cb, sd, ln, 1], D) rfl trivial ?_
            exact ih (x3 + 1) D _ _ h hx
          · replace h := zk_f h c36
            refine hr.1 8 True _ _ (7, [some (.ref 17), some (.int x1), some (.int x2), some (.int (x3 + 1)), some (.int q1)], [], [cb, sd, ln, 1], zp_i (zp_i D 17 13 q1) 17 14 x3) rfl trivial ?_
            exact ih (x3 + 1) (zp_i (zp_i D 17 13 q1) 17 14 x3) _ _ h hx
  rw [g_Pkg_searchMatch] at h
  refine hr.1 5 True _ _ (7, [some (.ref 17), some (.int x1), some (.int x2), some (.int 1), none], [], [cb, sd, ln, 1], zp_i D 17 13 0) rfl trivial ?_
  obtain ⟨q2, hc, h⟩ := zk_bind h
  refine loop7 x1 x2 10000 1 (zp_i D 17 13 0) none q2 hc (fun e3 o4 => ?_)
  clear hc
  exact hr.2.2.2 _ _ _ rfl trivial ⟨rfl, (congrArg (fun x => (([cb, sd, ln, 1], x) : zx_S)) (Option.some.inj h))⟩
set_option maxRecDepth 100000 in
set_option maxHeartbeats 4000000 in
theorem c_g_Mdl_distanceOf {l : Launch} {E : zx_E} {d : Nat} {cb sd ln pp : Nat} {x1 : Int32} {D : zx_D} {q : Int64} (h : g_Mdl_distanceOf x1 D = some q) : zx_MC l E 59 d [.ref 7, .int x1] ([cb, sd, ln, pp], D) (fun v S => v = some (.long q) ∧ S = ([cb, sd, ln, pp], D)) := by
  refine zx_ofC (K := ck_Mdl_distanceOf) rfl (by decide +kernel) rfl ok_Mdl_distanceOf (Nat.le_of_ble_eq_true rfl) (fun Zp hr => ?_)
  show Zp (0, [some (.ref 7), some (.int x1)], [], [cb, sd, ln, pp], D)
  rw [g_Mdl_distanceOf] at h
  obtain ⟨w2, h⟩ := zk_ck h
  refine hr.1 4 True _ _ (6, [some (.ref 7), some (.int x1)], [.long (zg_l D 8 (zn x1))], [cb, sd, ln, pp], D) rfl ⟨trivial, (zk_vp w2)⟩ ?_
  exact hr.2.2.2 _ _ _ rfl trivial ⟨(congrArg (fun x => some (Value.long x)) (Option.some.inj h)), rfl⟩
set_option maxRecDepth 100000 in
set_option maxHeartbeats 4000000 in
theorem c_g_Pkg_searchAgain {l : Launch} {E : zx_E} {d : Nat} {cb sd ln : Nat} {x1 : Int32} {x2 : Int32} {D : zx_D} {q : zx_D} (h : g_Pkg_searchAgain x1 x2 D = some q) : zx_MC l E 95 (d + 1) [.ref 17, .int x1, .int x2] ([cb, sd, ln, 1], D) (fun v S => v = none ∧ S = ([cb, sd, ln, 1], q)) := by
  refine zx_ofC (K := ck_Pkg_searchAgain) rfl (by decide +kernel) rfl ok_Pkg_searchAgain (Nat.le_of_ble_eq_true rfl) (fun Zp hr => ?_)
  show Zp (0, [some (.ref 17), some (.int x1), some (.int x2), none, none], [], [cb, sd, ln, 1], D)
  have loop12 : ∀ (x1 : Int32) (x2 : Int32) (k : Nat) (x3 : Int32) (D : zx_D) (o4 : Option Value) (q : zx_D), g_Pkg_searchAgain_12 x1 x2 k x3 D = some q → (∀ (e3 : Int32) (o4 : Option Value), Zp (59, [some (.ref 17), some (.int x1), some (.int x2), some (.int e3), o4], [], [cb, sd, ln, 1], q)) → Zp (12, [some (.ref 17), some (.int x1), some (.int x2), some (.int x3), o4], [], [cb, sd, ln, 1], D) := by
    intro x1 x2 k
    induction k with
    | zero => intro x3 D o4 q h hx; exact (zk_no h).elim
    | succ k ih =>
      intro x3 D o4 q h hx
      rw [g_Pkg_searchAgain_12] at h
      refine hr.1 2 True _ _ (14, [some (.ref 17), some (.int x1), some (.int x2), some (.int x3), o4], [.int 4, .int x3], [cb, sd, ln, 1], D) rfl trivial ?_
      refine hr.2.1 _ (4 ≤ x3) _ _ rfl (fun c14 => ?_) (fun c14 => ?_)
      · replace h := zk_t h c14
        replace h := Option.some.inj h
        subst h
        exact hx x3 o4
      · replace h := zk_f h c14
        refine hr.1 5 True _ _ (24, [some (.ref 17), some (.int x1), some (.int x2), some (.int x3), o4], [.int x3, .ref 7, .int x1, .ref 17], [cb, sd, ln, 1], D) rfl trivial ?_
        obtain ⟨q1, hc, h⟩ := zk_bind h
        refine hr.2.2.1 _ _ _ _ _ (d) rfl (by omega) (c_g_Mdl_distanceOf (l := l) (E := E) (d := d) (cb := cb) (sd := sd) (ln := ln) (pp := 1) hc) (fun v S hq => ?_)
        obtain ⟨rfl, rfl⟩ := hq
        clear hc
        refine hr.1 1 True _ _ (28, [some (.ref 17), some (.int x1), some (.int x2), some (.int x3), o4], [.int x2, .long q1, .int x1, .ref 17], [cb, sd, ln, 1], D) rfl trivial ?_
        obtain ⟨q2, hc, h⟩ := zk_bind h
        refine hr.2.2.1 _ _ _ _ _ (d) rfl (by omega) (c_g_Pkg_sameBytes (l := l) (E := E) (d := d) (cb := cb) (sd := sd) (ln := ln) hc) (fun v S hq => ?_)
        obtain ⟨rfl, rfl⟩ := hq
        clear hc
        refine hr.1 4 True _ _ (39, [some (.ref 17), some (.int x1), some (.int x2), some (.int x3), some (.int q2)], [.int (zg_i D 17 15), .int q2], [cb, sd, ln, 1], D) rfl trivial ?_
        refine hr.2.1 _ (q2 ≤ zg_i D 17 15) _ _ rfl (fun c39 => ?_) (fun c39 => ?_)
        · replace h := zk_t h c39
          refine hr.1 2 True _ _ (12, [some (.ref 17), some (.int x1), some (.int x2), some (.int (x3 + 1)), some (.int q2)], [], [cb, sd, ln, 1], D) rfl trivial ?_
          exact ih (x3 + 1) D _ _ h hx
        · replace h := zk_f h c39
          refine hr.1 8 True _ _ (12, [some (.ref 17), some (.int x1), some (.int x2), some (.int (x3 + 1)), some (.int q2)], [], [cb, sd, ln, 1], zp_i (zp_i D 17 15 q2) 17 16 x3) rfl trivial ?_
          exact ih (x3 + 1) (zp_i (zp_i D 17 15 q2) 17 16 x3) _ _ h hx
  rw [g_Pkg_searchAgain] at h
  refine hr.1 8 True _ _ (12, [some (.ref 17), some (.int x1), some (.int x2), some (.int 0), none], [], [cb, sd, ln, 1], zp_i (zp_i D 17 16 0) 17 15 0) rfl trivial ?_
  obtain ⟨q3, hc, h⟩ := zk_bind h
  refine loop12 x1 x2 10000 0 (zp_i (zp_i D 17 16 0) 17 15 0) none q3 hc (fun e3 o4 => ?_)
  clear hc
  exact hr.2.2.2 _ _ _ rfl trivial ⟨rfl, (congrArg (fun x => (([cb, sd, ln, 1], x) : zx_S)) (Option.some.inj h))⟩
set_option maxRecDepth 100000 in
set_option maxHeartbeats 4000000 in
theorem c_g_Pkg_choose {l : Launch} {E : zx_E} {d : Nat} {cb sd ln : Nat} {x1 : Int32} {x2 : Int32} {D : zx_D} {q : zx_D} (h : g_Pkg_choose x1 x2 D = some q) : zx_MC l E 93 (d + 2) [.ref 17, .int x1, .int x2] ([cb, sd, ln, 1], D) (fun v S => v = none ∧ S = ([cb, sd, ln, 1], q)) := by
  refine zx_ofC (K := ck_Pkg_choose) rfl (by decide +kernel) rfl ok_Pkg_choose (Nat.le_of_ble_eq_true rfl) (fun Zp hr => ?_)
  show Zp (0, [some (.ref 17), some (.int x1), some (.int x2)], [], [cb, sd, ln, 1], D)
  have jump102 : ∀ (D : zx_D) (x1 : Int32) (x2 : Int32), g_Pkg_choose_102 D = some q → Zp (102, [some (.ref 17), some (.int x1), some (.int x2)], [], [cb, sd, ln, 1], D) := by
    intro D x1 x2 h
    rw [g_Pkg_choose_102] at h
    refine hr.1 16 True _ _ (166, [some (.ref 17), some (.int x1), some (.int x2)], [], [cb, sd, ln, 1], zp_l (zp_i (zp_i D 7 7 2) 7 9 (zg_i D 17 13)) 7 10 (((zg_i D 17 14)).toInt64)) rfl trivial ?_
    exact hr.2.2.2 _ _ _ rfl trivial ⟨rfl, (congrArg (fun x => (([cb, sd, ln, 1], x) : zx_S)) (Option.some.inj h))⟩
  have jump136 : ∀ (x1 : Int32) (x2 : Int32) (D : zx_D), g_Pkg_choose_136 x1 x2 D = some q → Zp (136, [some (.ref 17), some (.int x1), some (.int x2)], [], [cb, sd, ln, 1], D) := by
    intro x1 x2 D h
    rw [g_Pkg_choose_136] at h
    refine hr.1 7 True _ _ (147, [some (.ref 17), some (.int x1), some (.int x2)], [.int 0, .ref 7, .int x1, .ref 17, .ref 7], [cb, sd, ln, 1], D) rfl trivial ?_
    obtain ⟨q3, hc, h⟩ := zk_bind h
    refine hr.2.2.1 _ _ _ _ _ (d + 1) rfl (by omega) (c_g_Mdl_distanceOf (l := l) (E := E) (d := d + 1) (cb := cb) (sd := sd) (ln := ln) (pp := 1) hc) (fun v S hq => ?_)
    obtain ⟨rfl, rfl⟩ := hq
    clear hc
    refine hr.1 1 True _ _ (151, [some (.ref 17), some (.int x1), some (.int x2)], [.int x2, .long q3, .int x1, .ref 17, .ref 7], [cb, sd, ln, 1], D) rfl trivial ?_
    obtain ⟨q4, hc, h⟩ := zk_bind h
    refine hr.2.2.1 _ _ _ _ _ (d + 1) rfl (by omega) (c_g_Pkg_sameBytes (l := l) (E := E) (d := d + 1) (cb := cb) (sd := sd) (ln := ln) hc) (fun v S hq => ?_)
    obtain ⟨rfl, rfl⟩ := hq
    clear hc
    refine hr.1 1 True _ _ (155, [some (.ref 17), some (.int x1), some (.int x2)], [.int 1, .int q4, .ref 7], [cb, sd, ln, 1], D) rfl trivial ?_
    refine hr.2.1 _ (¬ q4 = 1) _ _ rfl (fun c155 => ?_) (fun c155 => ?_)
    · replace h := zk_t h c155
      refine hr.1 2 True _ _ (166, [some (.ref 17), some (.int x1), some (.int x2)], [], [cb, sd, ln, 1], zp_i D 7 7 1) rfl trivial ?_
      exact hr.2.2.2 _ _ _ rfl trivial ⟨rfl, (congrArg (fun x => (([cb, sd, ln, 1], x) : zx_S)) (Option.some.inj h))⟩
    · replace h := zk_f h c155
      refine hr.1 3 True _ _ (166, [some (.ref 17), some (.int x1), some (.int x2)], [], [cb, sd, ln, 1], zp_i D 7 7 3) rfl trivial ?_
      exact hr.2.2.2 _ _ _ rfl trivial ⟨rfl, (congrArg (fun x => (([cb, sd, ln, 1], x) : zx_S)) (Option.some.inj h))⟩
  have jump76 : ∀ (x1 : Int32) (x2 : Int32) (D : zx_D), g_Pkg_choose_76 x1 x2 D = some q → Zp (76, [some (.ref 17), some (.int x1), some (.int x2)], [], [cb, sd, ln, 1], D) := by
    intro x1 x2 D h
    rw [g_Pkg_choose_76] at h
    refine hr.1 3 True _ _ (81, [some (.ref 17), some (.int x1), some (.int x2)], [.int 3, .int (zg_i D 17 13)], [cb, sd, ln, 1], D) rfl trivial ?_
    refine hr.2.1 _ (3 ≤ zg_i D 17 13) _ _ rfl (fun c81 => ?_) (fun c81 => ?_)
    · replace h := zk_t h c81
      exact jump102 D x1 x2 h
    · replace h := zk_f h c81
      refine hr.1 3 True _ _ (89, [some (.ref 17), some (.int x1), some (.int x2)], [.int 2, .int (zg_i D 17 13)], [cb, sd, ln, 1], D) rfl trivial ?_
      refine hr.2.1 _ (¬ zg_i D 17 13 = 2) _ _ rfl (fun c89 => ?_) (fun c89 => ?_)
      · replace h := zk_t h c89
        exact jump136 x1 x2 D h
      · replace h := zk_f h c89
        refine hr.1 3 True _ _ (99, [some (.ref 17), some (.int x1), some (.int x2)], [.int 128, .int (zg_i D 17 14)], [cb, sd, ln, 1], D) rfl trivial ?_
        refine hr.2.1 _ (128 < zg_i D 17 14) _ _ rfl (fun c99 => ?_) (fun c99 => ?_)
        · replace h := zk_t h c99
          exact jump136 x1 x2 D h
        · replace h := zk_f h c99
          exact jump102 D x1 x2 h
  rw [g_Pkg_choose] at h
  refine hr.1 3 True _ _ (3, [some (.ref 17), some (.int x1), some (.int x2)], [.int x2, .int x1, .ref 17], [cb, sd, ln, 1], D) rfl trivial ?_
  obtain ⟨q1, hc, h⟩ := zk_bind h
  refine hr.2.2.1 _ _ _ _ _ (d + 1) rfl (by omega) (c_g_Pkg_searchMatch (l := l) (E := E) (d := d) (cb := cb) (sd := sd) (ln := ln) hc) (fun v S hq => ?_)
  obtain ⟨rfl, rfl⟩ := hq
  clear hc
  refine hr.1 3 True _ _ (9, [some (.ref 17), some (.int x1), some (.int x2)], [.int x2, .int x1, .ref 17], [cb, sd, ln, 1], q1) rfl trivial ?_
  obtain ⟨q2, hc, h⟩ := zk_bind h
  refine hr.2.2.1 _ _ _ _ _ (d + 1) rfl (by omega) (c_g_Pkg_searchAgain (l := l) (E := E) (d := d) (cb := cb) (sd := sd) (ln := ln) hc) (fun v S hq => ?_)
  obtain ⟨rfl, rfl⟩ := hq
  clear hc
  obtain ⟨w2, h⟩ := zk_ck h
  refine hr.1 11 True _ _ (33, [some (.ref 17), some (.int x1), some (.int x2)], [.int 2, .int (zg_i q2 17 15)], [cb, sd, ln, 1], zp_i q2 7 8 (zg_i q2 2 (zn x1))) rfl ⟨trivial, (zk_vp w2)⟩ ?_
  refine hr.2.1 _ (zg_i q2 17 15 < 2) _ _ rfl (fun c33 => ?_) (fun c33 => ?_)
  · replace h := zk_t h c33
    exact jump76 x1 x2 (zp_i q2 7 8 (zg_i q2 2 (zn x1))) h
  · replace h := zk_f h c33
    refine hr.1 6 True _ _ (46, [some (.ref 17), some (.int x1), some (.int x2)], [.int (zg_i q2 17 13), .int ((zg_i q2 17 15) + 1)], [cb, sd, ln, 1], zp_i q2 7 8 (zg_i q2 2 (zn x1))) rfl trivial ?_
    refine hr.2.1 _ ((zg_i q2 17 15) + 1 < zg_i q2 17 13) _ _ rfl (fun c46 => ?_) (fun c46 => ?_)
    · replace h := zk_t h c46
      exact jump76 x1 x2 (zp_i q2 7 8 (zg_i q2 2 (zn x1))) h
    · replace h := zk_f h c46
      refine hr.1 13 True _ _ (166, [some (.ref 17), some (.int x1), some (.int x2)], [], [cb, sd, ln, 1], zp_i (zp_i (zp_i q2 7 8 (zg_i q2 2 (zn x1))) 7 7 (4 + (zg_i q2 17 16))) 7 9 (zg_i q2 17 15)) rfl trivial ?_
      exact hr.2.2.2 _ _ _ rfl trivial ⟨rfl, (congrArg (fun x => (([cb, sd, ln, 1], x) : zx_S)) (Option.some.inj h))⟩
set_option maxRecDepth 100000 in
set_option maxHeartbeats 4000000 in
theorem c_g_Snk_shift {l : Launch} {E : zx_E} {d : Nat} {cb sd ln pp : Nat} {D : zx_D} {q : zx_D} (h : g_Snk_shift D = some q) : zx_MC l E 51 d [.ref 20] ([cb, sd, ln, pp], D) (fun v S => v = none ∧ S = ([cb, sd, ln, pp], q)) := by
  refine zx_ofC (K := ck_Snk_shift) rfl (by decide +kernel) rfl ok_Snk_shift (Nat.le_of_ble_eq_true rfl) (fun Zp hr => ?_)
  show Zp (0, [some (.ref 20)], [], [cb, sd, ln, pp], D)
  rw [g_Snk_shift] at h
  refine hr.1 2 True _ _ (4, [some (.ref 20)], [.int (zg_i D 20 2)], [cb, sd, ln, pp], D) rfl trivial ?_
  refine hr.2.1 _ (¬ zg_i D 20 2 = 0) _ _ rfl (fun c4 => ?_) (fun c4 => ?_)
  · replace h := zk_t h c4
    exact hr.2.2.2 _ _ _ rfl trivial ⟨rfl, (congrArg (fun x => (([cb, sd, ln, pp], x) : zx_S)) (Option.some.inj h))⟩
  · replace h := zk_f h c4
    refine hr.1 3 True _ _ (14, [some (.ref 20)], [.long 16777216, .long (zg_l D 20 1)], [cb, sd, ln, pp], D) rfl trivial ?_
    refine hr.2.1 _ (zg_l D 20 1 < 16777216) _ _ rfl (fun c14 => ?_) (fun c14 => ?_)
    · replace h := zk_t h c14
      refine hr.1 4 True _ _ (27, [some (.ref 20)], [.int (zg_i D 20 5), .int (zg_i D 20 4)], [cb, sd, ln, pp], D) rfl trivial ?_
      refine hr.2.1 _ (zg_i D 20 4 < zg_i D 20 5) _ _ rfl (fun c27 => ?_) (fun c27 => ?_)
      · replace h := zk_t h c27
        refine hr.1 12 True _ _ (57, [some (.ref 20)], [], [cb, sd, ln, pp], zp_i (zp_l D 20 1 (zo_lshl (zg_l D 20 1) 8)) 20 4 ((zg_i D 20 4) + 1)) rfl trivial ?_
        exact hr.2.2.2 _ _ _ rfl trivial ⟨rfl, (congrArg (fun x => (([cb, sd, ln, pp], x) : zx_S)) (Option.some.inj h))⟩
      · replace h := zk_f h c27
        refine hr.1 3 True _ _ (35, [some (.ref 20)], [], [cb, sd, ln, pp], zp_i D 20 2 1) rfl ⟨trivial, (Or.inr rfl)⟩ ?_
        exact hr.2.2.2 _ _ _ rfl trivial ⟨rfl, (congrArg (fun x => (([cb, sd, ln, pp], x) : zx_S)) (Option.some.inj h))⟩
    · replace h := zk_f h c14
      exact hr.2.2.2 _ _ _ rfl trivial ⟨rfl, (congrArg (fun x => (([cb, sd, ln, pp], x) : zx_S)) (Option.some.inj h))⟩
set_option maxRecDepth 100000 in
set_option maxHeartbeats 4000000 in
theorem c_g_Snk_raise {l : Launch} {E : zx_E} {d : Nat} {cb sd ln pp : Nat} {x1 : Int64} {D : zx_D} {q : zx_D} (h : g_Snk_raise x1 D = some q) : zx_MC l E 52 d [.ref 20, .long x1] ([cb, sd, ln, pp], D) (fun v S => v = none ∧ S = ([cb, sd, ln, pp], q)) := by
  refine zx_ofC (K := ck_Snk_raise) rfl (by decide +kernel) rfl ok_Snk_raise (Nat.le_of_ble_eq_true rfl) (fun Zp hr => ?_)
  show Zp (0, [some (.ref 20), some (.long x1), none, none, none, none], [], [cb, sd, ln, pp], D)
  have loop10 : ∀ (k : Nat) (x3 : Int64) (x5 : Int32) (D : zx_D) (x1 : Int64) (q : zx_D), g_Snk_raise_10 k x3 x5 D = some q → (∀ (e3 : Int64) (e5 : Int32), Zp (56, [some (.ref 20), some (.long x1), none, some (.long e3), none, some (.int e5)], [], [cb, sd, ln, pp], q)) → Zp (10, [some (.ref 20), some (.long x1), none, some (.long x3), none, some (.int x5)], [], [cb, sd, ln, pp], D) := by
    intro k
    induction k with
    | zero => intro x3 x5 D x1 q h hx; exact (zk_no h).elim
    | succ k ih =>
      intro x3 x5 D x1 q h hx
      rw [g_Snk_raise_10] at h
      refine hr.1 1 True _ _ (12, [some (.ref 20), some (.long x1), none, some (.long x3), none, some (.int x5)], [.int x5], [cb, sd, ln, pp], D) rfl trivial ?_
      refine hr.2.1 _ (x5 < 0) _ _ rfl (fun c12 => ?_) (fun c12 => ?_)
      · replace h := zk_t h c12
        replace h := Option.some.inj h
        subst h
        exact hx x3 x5
      · replace h := zk_f h c12
        refine hr.1 2 True _ _ (17, [some (.ref 20), some (.long x1), none, some (.long x3), none, some (.int x5)], [.long 0, .long x3], [cb, sd, ln, pp], D) rfl trivial ?_
        refine hr.2.1 _ (x3 = 0) _ _ rfl (fun c17 => ?_) (fun c17 => ?_)
        · replace h := zk_t h c17
          replace h := Option.some.inj h
          subst h
          exact hx x3 x5
        · replace h := zk_f h c17
          obtain ⟨w3, h⟩ := zk_ck h
          obtain ⟨w4, h⟩ := zk_ck h
          refine hr.1 22 True _ _ (10, [some (.ref 20), some (.long x1), none, some (.long (zo_lushr (x3 + (((zg_i D 21 (zn x5))).toInt64)) 8)), none, some (.int (x5 + (-1)))], [], [cb, sd, ln, pp], zp_i D 21 (zn x5) ((((x3 + (((zg_i D 21 (zn x5))).toInt64))).toInt32) &&& 255)) rfl ⟨⟨trivial, (zk_vp w3)⟩, (zk_vp w4)⟩ ?_
          exact ih (zo_lushr (x3 + (((zg_i D 21 (zn x5))).toInt64)) 8) (x5 + (-1)) (zp_i D 21 (zn x5) ((((x3 + (((zg_i D 21 (zn x5))).toInt64))).toInt32) &&& 255)) _ _ h hx
  rw [g_Snk_raise] at h
  refine hr.1 7 True _ _ (10, [some (.ref 20), some (.long x1), none, some (.long x1), none, some (.int ((zg_i D 20 4) - 1))], [], [cb, sd, ln, pp], D) rfl trivial ?_
  obtain ⟨q1, hc, h⟩ := zk_bind h
  refine loop10 10000 x1 ((zg_i D 20 4) - 1) D x1 q1 hc (fun e3 e5 => ?_)
  clear hc
  exact hr.2.2.2 _ _ _ rfl trivial ⟨rfl, (congrArg (fun x => (([cb, sd, ln, pp], x) : zx_S)) (Option.some.inj h))⟩
