/-! Contracts (written by a program) -/
set_option maxRecDepth 100000 in
set_option maxHeartbeats 4000000 in
theorem c_g_Row_hasRoom_10 {l : Launch} {E : zx_E} {d : Nat} {cb sd ln pp : Nat} {x1 : Int32} {D : zx_D} {q : Int32} (h : g_Row_hasRoom_10 x1 D = some q) : zx_MC l E 21 d [.ref 10, .int x1] ([cb, sd, ln, pp], D) (fun v S => v = some (.int q) ∧ S = ([cb, sd, ln, pp], D)) := by
  refine zx_ofC (K := ck_Row_hasRoom) rfl (by decide +kernel) rfl ok_Row_hasRoom (Nat.le_of_ble_eq_true rfl) (fun Zp hr => ?_)
  show Zp (0, [some (.ref 10), some (.int x1)], [], [cb, sd, ln, pp], D)
  rw [g_Row_hasRoom_10] at h
  refine hr.1 7 True _ _ (11, [some (.ref 10), some (.int x1)], [.int (400 - (zg_i D 10 1)), .int x1], [cb, sd, ln, pp], D) rfl trivial ?_
  refine hr.2.1 _ (400 - (zg_i D 10 1) < x1) _ _ rfl (fun c11 => ?_) (fun c11 => ?_)
  · replace h := zk_t h c11
    refine hr.1 1 True _ _ (19, [some (.ref 10), some (.int x1)], [.int 0], [cb, sd, ln, pp], D) rfl trivial ?_
    exact hr.2.2.2 _ _ _ rfl (Or.inl rfl) ⟨(congrArg (fun x => some (Value.int x)) (Option.some.inj h)), rfl⟩
  · replace h := zk_f h c11
    refine hr.1 2 True _ _ (19, [some (.ref 10), some (.int x1)], [.int 1], [cb, sd, ln, pp], D) rfl trivial ?_
    exact hr.2.2.2 _ _ _ rfl (Or.inr rfl) ⟨(congrArg (fun x => some (Value.int x)) (Option.some.inj h)), rfl⟩
set_option maxRecDepth 100000 in
set_option maxHeartbeats 4000000 in
theorem c_g_Unp_hasBytesAndRoom {l : Launch} {E : zx_E} {d : Nat} {cb sd ln pp : Nat} {x1 : Int32} {D : zx_D} {q : Int32 × zx_D} (h : g_Unp_hasBytesAndRoom x1 D = some q) : zx_MC l E 79 (d + 2) [.ref 9, .int x1] ([cb, sd, ln, pp], D) (fun v S => v = some (.int q.1) ∧ S = ([cb, sd, ln, pp], q.2)) := by
  refine zx_ofC (K := ck_Unp_hasBytesAndRoom) rfl (by decide +kernel) rfl ok_Unp_hasBytesAndRoom (Nat.le_of_ble_eq_true rfl) (fun Zp hr => ?_)
  show Zp (0, [some (.ref 9), some (.int x1)], [], [cb, sd, ln, pp], D)
  rw [g_Unp_hasBytesAndRoom] at h
  refine hr.1 3 True _ _ (5, [some (.ref 9), some (.int x1)], [.int x1, .ref 12], [cb, sd, ln, pp], D) rfl trivial ?_
  obtain ⟨q1, hc, h⟩ := zk_bind h
  refine hr.2.2.1 _ _ _ _ _ (d + 1) rfl (by omega) (c_g_Cur_has (l := l) (E := E) (d := d) (cb := cb) (sd := sd) (ln := ln) (pp := pp) hc) (fun v S hq => ?_)
  obtain ⟨rfl, rfl⟩ := hq
  clear hc
  refine hr.2.1 _ (q1.1 = 0) _ _ rfl (fun c8 => ?_) (fun c8 => ?_)
  · replace h := zk_t h c8
    refine hr.1 2 True _ _ (45, [some (.ref 9), some (.int x1)], [.ref 12], [cb, sd, ln, pp], q1.2) rfl trivial ?_
    obtain ⟨q2, hc, h⟩ := zk_bind h
    refine hr.2.2.1 _ _ _ _ _ (d + 1) rfl (by omega) (c_g_Cur_isSound (l := l) (E := E) (d := d + 1) (cb := cb) (sd := sd) (ln := ln) (pp := pp) hc) (fun v S hq => ?_)
    obtain ⟨rfl, rfl⟩ := hq
    clear hc
    obtain ⟨w4, h⟩ := zk_ck h
    exact hr.2.2.2 _ _ _ rfl w4 ⟨(congrArg (fun x => some (Value.int x.1)) (Option.some.inj h)), (congrArg (fun x => (([cb, sd, ln, pp], x.2) : zx_S)) (Option.some.inj h))⟩
  · replace h := zk_f h c8
    refine hr.1 4 True _ _ (19, [some (.ref 9), some (.int x1)], [.int (zg_i q1.2 9 16), .ref 10], [cb, sd, ln, pp], q1.2) rfl trivial ?_
    obtain ⟨q3, hc, h⟩ := zk_bind h
    refine hr.2.2.1 _ _ _ _ _ (d + 1) rfl (by omega) (c_g_Row_hasRoom_10 (l := l) (E := E) (d := d + 1) (cb := cb) (sd := sd) (ln := ln) (pp := pp) hc) (fun v S hq => ?_)
    obtain ⟨rfl, rfl⟩ := hq
    clear hc
    refine hr.2.1 _ (¬ q3 = 0) _ _ rfl (fun c22 => ?_) (fun c22 => ?_)
    · replace h := zk_t h c22
      refine hr.1 2 True _ _ (45, [some (.ref 9), some (.int x1)], [.ref 12], [cb, sd, ln, pp], q1.2) rfl trivial ?_
      obtain ⟨q4, hc, h⟩ := zk_bind h
      refine hr.2.2.1 _ _ _ _ _ (d + 1) rfl (by omega) (c_g_Cur_isSound (l := l) (E := E) (d := d + 1) (cb := cb) (sd := sd) (ln := ln) (pp := pp) hc) (fun v S hq => ?_)
      obtain ⟨rfl, rfl⟩ := hq
      clear hc
      obtain ⟨w5, h⟩ := zk_ck h
      exact hr.2.2.2 _ _ _ rfl w5 ⟨(congrArg (fun x => some (Value.int x.1)) (Option.some.inj h)), (congrArg (fun x => (([cb, sd, ln, pp], x.2) : zx_S)) (Option.some.inj h))⟩
    · replace h := zk_f h c22
      refine hr.1 6 True _ _ (38, [some (.ref 9), some (.int x1)], [.int (zg_i q1.2 12 3), .int (-5), .ref 12], [cb, sd, ln, pp], q1.2) rfl trivial ?_
      obtain ⟨q5, hc, h⟩ := zk_bind h
      refine hr.2.2.1 _ _ _ _ _ (d + 1) rfl (by omega) (c_g_Cur_fail (l := l) (E := E) (d := d + 1) (cb := cb) (sd := sd) (ln := ln) (pp := pp) hc) (fun v S hq => ?_)
      obtain ⟨rfl, rfl⟩ := hq
      clear hc
      refine hr.1 2 True _ _ (45, [some (.ref 9), some (.int x1)], [.ref 12], [cb, sd, ln, pp], q5) rfl trivial ?_
      obtain ⟨q6, hc, h⟩ := zk_bind h
      refine hr.2.2.1 _ _ _ _ _ (d + 1) rfl (by omega) (c_g_Cur_isSound (l := l) (E := E) (d := d + 1) (cb := cb) (sd := sd) (ln := ln) (pp := pp) hc) (fun v S hq => ?_)
      obtain ⟨rfl, rfl⟩ := hq
      clear hc
      obtain ⟨w6, h⟩ := zk_ck h
      exact hr.2.2.2 _ _ _ rfl w6 ⟨(congrArg (fun x => some (Value.int x.1)) (Option.some.inj h)), (congrArg (fun x => (([cb, sd, ln, pp], x.2) : zx_S)) (Option.some.inj h))⟩
set_option maxRecDepth 100000 in
set_option maxHeartbeats 4000000 in
theorem c_g_Row_append_10 {l : Launch} {E : zx_E} {d : Nat} {cb sd ln pp : Nat} {x1 : Int32} {D : zx_D} {q : zx_D} (h : g_Row_append_10 x1 D = some q) : zx_MC l E 22 d [.ref 10, .int x1] ([cb, sd, ln, pp], D) (fun v S => v = none ∧ S = ([cb, sd, ln, pp], q)) := by
  refine zx_ofC (K := ck_Row_append) rfl (by decide +kernel) rfl ok_Row_append (Nat.le_of_ble_eq_true rfl) (fun Zp hr => ?_)
  show Zp (0, [some (.ref 10), some (.int x1)], [], [cb, sd, ln, pp], D)
  rw [g_Row_append_10] at h
  refine hr.1 5 True _ _ (9, [some (.ref 10), some (.int x1)], [.int 400, .int (zg_i D 10 1)], [cb, sd, ln, pp], D) rfl trivial ?_
  refine hr.2.1 _ (zg_i D 10 1 < 400) _ _ rfl (fun c9 => ?_) (fun c9 => ?_)
  · replace h := zk_t h c9
    obtain ⟨w2, h⟩ := zk_ck h
    refine hr.1 12 True _ _ (38, [some (.ref 10), some (.int x1)], [], [cb, sd, ln, pp], zp_i (zp_i D 11 (zn (zg_i D 10 1)) x1) 10 1 ((zg_i D 10 1) + 1)) rfl ⟨trivial, (zk_vp w2)⟩ ?_
    exact hr.2.2.2 _ _ _ rfl trivial ⟨rfl, (congrArg (fun x => (([cb, sd, ln, pp], x) : zx_S)) (Option.some.inj h))⟩
  · replace h := zk_f h c9
    refine hr.1 3 True _ _ (17, [some (.ref 10), some (.int x1)], [], [cb, sd, ln, pp], zp_i D 10 2 1) rfl ⟨trivial, (Or.inr rfl)⟩ ?_
    exact hr.2.2.2 _ _ _ rfl trivial ⟨rfl, (congrArg (fun x => (([cb, sd, ln, pp], x) : zx_S)) (Option.some.inj h))⟩
set_option maxRecDepth 100000 in
set_option maxHeartbeats 4000000 in
theorem c_g_Row_appendAll_10_4 {l : Launch} {E : zx_E} {d : Nat} {cb sd ln pp : Nat} {x2 : Int32} {x3 : Int32} {D : zx_D} {q : zx_D} (h : g_Row_appendAll_10_4 x2 x3 D = some q) : zx_MC l E 23 (d + 1) [.ref 10, .ref 4, .int x2, .int x3] ([cb, sd, ln, pp], D) (fun v S => v = none ∧ S = ([cb, sd, ln, pp], q)) := by
  refine zx_ofC (K := ck_Row_appendAll) rfl (by decide +kernel) rfl ok_Row_appendAll (Nat.le_of_ble_eq_true rfl) (fun Zp hr => ?_)
  show Zp (0, [some (.ref 10), some (.ref 4), some (.int x2), some (.int x3), none], [], [cb, sd, ln, pp], D)
  have loop3 : ∀ (x2 : Int32) (x3 : Int32) (k : Nat) (x4 : Int32) (D : zx_D) (q : zx_D), g_Row_appendAll_10_4_3 x2 x3 k x4 D = some q → (∀ (e4 : Int32), Zp (25, [some (.ref 10), some (.ref 4), some (.int x2), some (.int x3), some (.int e4)], [], [cb, sd, ln, pp], q)) → Zp (3, [some (.ref 10), some (.ref 4), some (.int x2), some (.int x3), some (.int x4)], [], [cb, sd, ln, pp], D) := by
    intro x2 x3 k
    induction k with
    | zero => intro x4 D q h hx; exact (zk_no h).elim
    | succ k ih =>
      intro x4 D q h hx
      rw [g_Row_appendAll_10_4_3] at h
      refine hr.1 4 True _ _ (8, [some (.ref 10), some (.ref 4), some (.int x2), some (.int x3), some (.int x4)], [.int (x2 + x3), .int x4], [cb, sd, ln, pp], D) rfl trivial ?_
      refine hr.2.1 _ (x2 + x3 ≤ x4) _ _ rfl (fun c8 => ?_) (fun c8 => ?_)
      · replace h := zk_t h c8
        replace h := Option.some.inj h
        subst h
        exact hx x4
      · replace h := zk_f h c8
        obtain ⟨w2, h⟩ := zk_ck h
        refine hr.1 4 True _ _ (16, [some (.ref 10), some (.ref 4), some (.int x2), some (.int x3), some (.int x4)], [.int (zg_i D 4 (zn x4)), .ref 10], [cb, sd, ln, pp], D) rfl ⟨trivial, (zk_vp w2)⟩ ?_
        obtain ⟨q1, hc, h⟩ := zk_bind h
        refine hr.2.2.1 _ _ _ _ _ (d) rfl (by omega) (c_g_Row_append_10 (l := l) (E := E) (d := d) (cb := cb) (sd := sd) (ln := ln) (pp := pp) hc) (fun v S hq => ?_)
        obtain ⟨rfl, rfl⟩ := hq
        clear hc
        refine hr.1 2 True _ _ (3, [some (.ref 10), some (.ref 4), some (.int x2), some (.int x3), some (.int (x4 + 1))], [], [cb, sd, ln, pp], q1) rfl trivial ?_
        exact ih (x4 + 1) q1 _ h hx
  rw [g_Row_appendAll_10_4] at h
  refine hr.1 2 True _ _ (3, [some (.ref 10), some (.ref 4), some (.int x2), some (.int x3), some (.int x2)], [], [cb, sd, ln, pp], D) rfl trivial ?_
  obtain ⟨q2, hc, h⟩ := zk_bind h
  refine loop3 x2 x3 10000 x2 D q2 hc (fun e4 => ?_)
  clear hc
  exact hr.2.2.2 _ _ _ rfl trivial ⟨rfl, (congrArg (fun x => (([cb, sd, ln, pp], x) : zx_S)) (Option.some.inj h))⟩
set_option maxRecDepth 100000 in
set_option maxHeartbeats 4000000 in
theorem c_g_Unp_givePlain {l : Launch} {E : zx_E} {d : Nat} {sd ln pp : Nat} {D : zx_D} {q : zx_D} (h : g_Unp_givePlain D = some q) : zx_MC l E 80 (d + 3) [.ref 9] ([4, sd, ln, pp], D) (fun v S => v = none ∧ S = ([4, sd, ln, pp], q)) := by
  refine zx_ofC (K := ck_Unp_givePlain) rfl (by decide +kernel) rfl ok_Unp_givePlain (Nat.le_of_ble_eq_true rfl) (fun Zp hr => ?_)
  show Zp (0, [some (.ref 9)], [], [4, sd, ln, pp], D)
  rw [g_Unp_givePlain] at h
  refine hr.1 3 True _ _ (5, [some (.ref 9)], [.int (zg_i D 9 16), .ref 9], [4, sd, ln, pp], D) rfl trivial ?_
  obtain ⟨q1, hc, h⟩ := zk_bind h
  refine hr.2.2.1 _ _ _ _ _ (d + 2) rfl (by omega) (c_g_Unp_hasBytesAndRoom (l := l) (E := E) (d := d) (cb := 4) (sd := sd) (ln := ln) (pp := pp) hc) (fun v S hq => ?_)
  obtain ⟨rfl, rfl⟩ := hq
  clear hc
  refine hr.2.1 _ (¬ q1.1 = 0) _ _ rfl (fun c8 => ?_) (fun c8 => ?_)
  · replace h := zk_t h c8
    refine hr.1 10 True _ _ (34, [some (.ref 9)], [.int (zg_i q1.2 9 16), .int (zg_i q1.2 12 3), .ref 4, .ref 10], [4, sd, ln, pp], q1.2) rfl trivial ?_
    obtain ⟨q2, hc, h⟩ := zk_bind h
    refine hr.2.2.1 _ _ _ _ _ (d + 2) rfl (by omega) (c_g_Row_appendAll_10_4 (l := l) (E := E) (d := d + 1) (cb := 4) (sd := sd) (ln := ln) (pp := pp) hc) (fun v S hq => ?_)
    obtain ⟨rfl, rfl⟩ := hq
    clear hc
    refine hr.1 16 True _ _ (64, [some (.ref 9)], [], [4, sd, ln, pp], zp_i (zp_i q2 12 3 ((zg_i q2 12 3) + (zg_i q2 9 16))) 14 (zn 9) ((zg_i q2 14 (zn 9)) + 1)) rfl ⟨⟨trivial, (zk_vp rfl)⟩, (zk_vp rfl)⟩ ?_
    exact hr.2.2.2 _ _ _ rfl trivial ⟨rfl, (congrArg (fun x => (([4, sd, ln, pp], x) : zx_S)) (Option.some.inj h))⟩
  · replace h := zk_f h c8
    exact hr.2.2.2 _ _ _ rfl trivial ⟨rfl, (congrArg (fun x => (([4, sd, ln, pp], x) : zx_S)) (Option.some.inj h))⟩
set_option maxRecDepth 100000 in
set_option maxHeartbeats 4000000 in
theorem c_g_Src_begin_4 {l : Launch} {E : zx_E} {d : Nat} {cb sd ln pp : Nat} {x2 : Int32} {x3 : Int32} {D : zx_D} {q : zx_D} (h : g_Src_begin_4 x2 x3 D = some q) : zx_MC l E 44 d [.ref 5, .ref 4, .int x2, .int x3] ([cb, sd, ln, pp], D) (fun v S => v = none ∧ S = ([cb, 4, ln, pp], q)) := by
  refine zx_ofC (K := ck_Src_begin) rfl (by decide +kernel) rfl ok_Src_begin (Nat.le_of_ble_eq_true rfl) (fun Zp hr => ?_)
  show Zp (0, [some (.ref 5), some (.ref 4), some (.int x2), some (.int x3), none], [], [cb, sd, ln, pp], D)
  have loop54 : ∀ (x2 : Int32) (k : Nat) (x4 : Int32) (D : zx_D) (x3 : Int32) (q : zx_D), g_Src_begin_4_54 x2 k x4 D = some q → (∀ (e4 : Int32), Zp (92, [some (.ref 5), some (.ref 4), some (.int x2), some (.int x3), some (.int e4)], [], [cb, 4, ln, pp], q)) → Zp (54, [some (.ref 5), some (.ref 4), some (.int x2), some (.int x3), some (.int x4)], [], [cb, 4, ln, pp], D) := by
    intro x2 k
    induction k with
    | zero => intro x4 D x3 q h hx; exact (zk_no h).elim
    | succ k ih =>
      intro x4 D x3 q h hx
      rw [g_Src_begin_4_54] at h
      refine hr.1 2 True _ _ (57, [some (.ref 5), some (.ref 4), some (.int x2), some (.int x3), some (.int x4)], [.int 5, .int x4], [cb, 4, ln, pp], D) rfl trivial ?_
      refine hr.2.1 _ (5 ≤ x4) _ _ rfl (fun c57 => ?_) (fun c57 => ?_)
      · replace h := zk_t h c57
        replace h := Option.some.inj h
        subst h
        exact hx x4
      · replace h := zk_f h c57
        refine hr.1 2 True _ _ (64, [some (.ref 5), some (.ref 4), some (.int x2), some (.int x3), some (.int x4)], [.int (zg_i D 5 2)], [cb, 4, ln, pp], D) rfl trivial ?_
        refine hr.2.1 _ (¬ zg_i D 5 2 = 0) _ _ rfl (fun c64 => ?_) (fun c64 => ?_)
        · replace h := zk_t h c64
          replace h := Option.some.inj h
          subst h
          exact hx x4
        · replace h := zk_f h c64
          obtain ⟨w4, h⟩ := zk_ck h
          refine hr.1 15 True _ _ (54, [some (.ref 5), some (.ref 4), some (.int x2), some (.int x3), some (.int (x4 + 1))], [], [cb, 4, ln, pp], zp_l D 5 6 ((zo_lshl (zg_l D 5 6) 8) + (((zg_i D 4 (zn (x2 + x4)))).toInt64))) rfl ⟨trivial, (zk_vp w4)⟩ ?_
          exact ih (x4 + 1) (zp_l D 5 6 ((zo_lshl (zg_l D 5 6) 8) + (((zg_i D 4 (zn (x2 + x4)))).toInt64))) _ _ h hx
  rw [g_Src_begin_4] at h
  refine hr.1 22 True _ _ (34, [some (.ref 5), some (.ref 4), some (.int x2), some (.int x3), none], [.int 5, .int (x3 - x2), .ref 5], [cb, 4, ln, pp], zp_l (zp_l (zp_i (zp_i D 5 4 (x2 + 5)) 5 5 x3) 5 1 4294967295) 5 6 0) rfl trivial ?_
  obtain ⟨q1, hj, h⟩ := zk_bind h
  have J48 : ∀ (_ : True), Zp (48, [some (.ref 5), some (.ref 4), some (.int x2), some (.int x3), none], [.int q1, .ref 5], [cb, 4, ln, pp], zp_l (zp_l (zp_i (zp_i D 5 4 (x2 + 5)) 5 5 x3) 5 1 4294967295) 5 6 0) := by
    intro _
    obtain ⟨w5, h⟩ := zk_ck h
    refine hr.1 3 True _ _ (54, [some (.ref 5), some (.ref 4), some (.int x2), some (.int x3), some (.int 1)], [], [cb, 4, ln, pp], zp_i (zp_l (zp_l (zp_i (zp_i D 5 4 (x2 + 5)) 5 5 x3) 5 1 4294967295) 5 6 0) 5 2 q1) rfl ⟨trivial, w5⟩ ?_
    obtain ⟨q2, hc, h⟩ := zk_bind h
    refine loop54 x2 10000 1 (zp_i (zp_l (zp_l (zp_i (zp_i D 5 4 (x2 + 5)) 5 5 x3) 5 1 4294967295) 5 6 0) 5 2 q1) x3 q2 hc (fun e4 => ?_)
    clear hc
    refine hr.1 5 True _ _ (101, [some (.ref 5), some (.ref 4), some (.int x2), some (.int x3), some (.int e4)], [.long (zg_l q2 5 1), .long (zg_l q2 5 6), .ref 5], [cb, 4, ln, pp], q2) rfl trivial ?_
    refine hr.2.1 _ (zg_l q2 5 6 < zg_l q2 5 1) _ _ rfl (fun c101 => ?_) (fun c101 => ?_)
    · replace h := zk_t h c101
      refine hr.1 2 True _ _ (113, [some (.ref 5), some (.ref 4), some (.int x2), some (.int x3), some (.int e4)], [], [cb, 4, ln, pp], zp_i q2 5 7 0) rfl ⟨trivial, (Or.inl rfl)⟩ ?_
      exact hr.2.2.2 _ _ _ rfl trivial ⟨rfl, (congrArg (fun x => (([cb, 4, ln, pp], x) : zx_S)) (Option.some.inj h))⟩
    · replace h := zk_f h c101
      refine hr.1 3 True _ _ (113, [some (.ref 5), some (.ref 4), some (.int x2), some (.int x3), some (.int e4)], [], [cb, 4, ln, pp], zp_i q2 5 7 1) rfl ⟨trivial, (Or.inr rfl)⟩ ?_
      exact hr.2.2.2 _ _ _ rfl trivial ⟨rfl, (congrArg (fun x => (([cb, 4, ln, pp], x) : zx_S)) (Option.some.inj h))⟩
  clear h
  have h := hj
  clear hj
  refine hr.2.1 _ (x3 - x2 < 5) _ _ rfl (fun c34 => ?_) (fun c34 => ?_)
  · replace h := zk_t h c34
    refine hr.1 2 True _ _ (48, [some (.ref 5), some (.ref 4), some (.int x2), some (.int x3), none], [.int 1, .ref 5], [cb, 4, ln, pp], zp_l (zp_l (zp_i (zp_i D 5 4 (x2 + 5)) 5 5 x3) 5 1 4294967295) 5 6 0) rfl trivial ?_
    replace h := Option.some.inj h
    subst h
    exact J48 trivial
  · replace h := zk_f h c34
    obtain ⟨w6, h⟩ := zk_ck h
    refine hr.1 3 True _ _ (40, [some (.ref 5), some (.ref 4), some (.int x2), some (.int x3), none], [.int (zg_i D 4 (zn x2)), .ref 5], [cb, 4, ln, pp], zp_l (zp_l (zp_i (zp_i D 5 4 (x2 + 5)) 5 5 x3) 5 1 4294967295) 5 6 0) rfl ⟨trivial, (zk_vp w6)⟩ ?_
    refine hr.2.1 _ (zg_i D 4 (zn x2) = 0) _ _ rfl (fun c40 => ?_) (fun c40 => ?_)
    · replace h := zk_t h c40
      refine hr.1 1 True _ _ (48, [some (.ref 5), some (.ref 4), some (.int x2), some (.int x3), none], [.int 0, .ref 5], [cb, 4, ln, pp], zp_l (zp_l (zp_i (zp_i D 5 4 (x2 + 5)) 5 5 x3) 5 1 4294967295) 5 6 0) rfl trivial ?_
      replace h := Option.some.inj h
      subst h
      exact J48 trivial
    · replace h := zk_f h c40
      refine hr.1 2 True _ _ (48, [some (.ref 5), some (.ref 4), some (.int x2), some (.int x3), none], [.int 1, .ref 5], [cb, 4, ln, pp], zp_l (zp_l (zp_i (zp_i D 5 4 (x2 + 5)) 5 5 x3) 5 1 4294967295) 5 6 0) rfl trivial ?_
      replace h := Option.some.inj h
      subst h
      exact J48 trivial
set_option maxRecDepth 100000 in
set_option maxHeartbeats 4000000 in
theorem c_g_Mdl_useLine_5 {l : Launch} {E : zx_E} {d : Nat} {cb sd ln pp : Nat} {D : zx_D} {q : Unit} (h : g_Mdl_useLine_5 D = some q) : zx_MC l E 58 d [.ref 7, .ref 5] ([cb, sd, ln, pp], D) (fun v S => v = none ∧ S = ([cb, sd, 5, pp], D)) := by
  refine zx_ofC (K := ck_Mdl_useLine) rfl (by decide +kernel) rfl ok_Mdl_useLine (Nat.le_of_ble_eq_true rfl) (fun Zp hr => ?_)
  show Zp (0, [some (.ref 7), some (.ref 5)], [], [cb, sd, ln, pp], D)
  rw [g_Mdl_useLine_5] at h
  refine hr.1 3 True _ _ (5, [some (.ref 7), some (.ref 5)], [], [cb, sd, 5, pp], D) rfl trivial ?_
  exact hr.2.2.2 _ _ _ rfl trivial ⟨rfl, rfl⟩
set_option maxRecDepth 100000 in
set_option maxHeartbeats 4000000 in
theorem c_g_Src_shift {l : Launch} {E : zx_E} {d : Nat} {cb ln pp : Nat} {D : zx_D} {q : zx_D} (h : g_Src_shift D = some q) : zx_MC l E 45 d [.ref 5] ([cb, 4, ln, pp], D) (fun v S => v = none ∧ S = ([cb, 4, ln, pp], q)) := by
  refine zx_ofC (K := ck_Src_shift) rfl (by decide +kernel) rfl ok_Src_shift (Nat.le_of_ble_eq_true rfl) (fun Zp hr => ?_)
  show Zp (0, [some (.ref 5)], [], [cb, 4, ln, pp], D)
  rw [g_Src_shift] at h
  refine hr.1 2 True _ _ (4, [some (.ref 5)], [.int (zg_i D 5 2)], [cb, 4, ln, pp], D) rfl trivial ?_
  refine hr.2.1 _ (¬ zg_i D 5 2 = 0) _ _ rfl (fun c4 => ?_) (fun c4 => ?_)
  · replace h := zk_t h c4
    exact hr.2.2.2 _ _ _ rfl trivial ⟨rfl, (congrArg (fun x => (([cb, 4, ln, pp], x) : zx_S)) (Option.some.inj h))⟩
  · replace h := zk_f h c4
    refine hr.1 3 True _ _ (14, [some (.ref 5)], [.long 16777216, .long (zg_l D 5 1)], [cb, 4, ln, pp], D) rfl trivial ?_
    refine hr.2.1 _ (zg_l D 5 1 < 16777216) _ _ rfl (fun c14 => ?_) (fun c14 => ?_)
    · replace h := zk_t h c14
      refine hr.1 4 True _ _ (27, [some (.ref 5)], [.int (zg_i D 5 5), .int (zg_i D 5 4)], [cb, 4, ln, pp], D) rfl trivial ?_
      refine hr.2.1 _ (zg_i D 5 4 < zg_i D 5 5) _ _ rfl (fun c27 => ?_) (fun c27 => ?_)
      · replace h := zk_t h c27
        obtain ⟨w2, h⟩ := zk_ck h
        refine hr.1 25 True _ _ (79, [some (.ref 5)], [], [cb, 4, ln, pp], zp_i (zp_l (zp_l D 5 1 (zo_lshl (zg_l D 5 1) 8)) 5 6 ((zo_lshl (zg_l D 5 6) 8) + (((zg_i D 4 (zn (zg_i D 5 4)))).toInt64))) 5 4 ((zg_i D 5 4) + 1)) rfl ⟨trivial, (zk_vp w2)⟩ ?_
        exact hr.2.2.2 _ _ _ rfl trivial ⟨rfl, (congrArg (fun x => (([cb, 4, ln, pp], x) : zx_S)) (Option.some.inj h))⟩
      · replace h := zk_f h c27
        refine hr.1 3 True _ _ (35, [some (.ref 5)], [], [cb, 4, ln, pp], zp_i D 5 2 1) rfl ⟨trivial, (Or.inr rfl)⟩ ?_
        exact hr.2.2.2 _ _ _ rfl trivial ⟨rfl, (congrArg (fun x => (([cb, 4, ln, pp], x) : zx_S)) (Option.some.inj h))⟩
    · replace h := zk_f h c14
      exact hr.2.2.2 _ _ _ rfl trivial ⟨rfl, (congrArg (fun x => (([cb, 4, ln, pp], x) : zx_S)) (Option.some.inj h))⟩
set_option maxRecDepth 100000 in
set_option maxHeartbeats 4000000 in
theorem c_g_Src_endsWell {l : Launch} {E : zx_E} {d : Nat} {cb ln pp : Nat} {D : zx_D} {q : Int32 × zx_D} (h : g_Src_endsWell D = some q) : zx_MC l E 49 (d + 1) [.ref 5] ([cb, 4, ln, pp], D) (fun v S => v = some (.int q.1) ∧ S = ([cb, 4, ln, pp], q.2)) := by
  refine zx_ofC (K := ck_Src_endsWell) rfl (by decide +kernel) rfl ok_Src_endsWell (Nat.le_of_ble_eq_true rfl) (fun Zp hr => ?_)
  show Zp (0, [some (.ref 5)], [], [cb, 4, ln, pp], D)
  rw [g_Src_endsWell] at h
  refine hr.1 1 True _ _ (1, [some (.ref 5)], [.ref 5], [cb, 4, ln, pp], D) rfl trivial ?_
  obtain ⟨q1, hc, h⟩ := zk_bind h
  refine hr.2.2.1 _ _ _ _ _ (d) rfl (by omega) (c_g_Src_shift (l := l) (E := E) (d := d) (cb := cb) (ln := ln) (pp := pp) hc) (fun v S hq => ?_)
  obtain ⟨rfl, rfl⟩ := hq
  clear hc
  refine hr.1 2 True _ _ (8, [some (.ref 5)], [.int (zg_i q1 5 2)], [cb, 4, ln, pp], q1) rfl trivial ?_
  refine hr.2.1 _ (¬ zg_i q1 5 2 = 0) _ _ rfl (fun c8 => ?_) (fun c8 => ?_)
  · replace h := zk_t h c8
    refine hr.1 1 True _ _ (43, [some (.ref 5)], [.int 0], [cb, 4, ln, pp], q1) rfl trivial ?_
    exact hr.2.2.2 _ _ _ rfl (Or.inl rfl) ⟨(congrArg (fun x => some (Value.int x.1)) (Option.some.inj h)), (congrArg (fun x => (([cb, 4, ln, pp], x.2) : zx_S)) (Option.some.inj h))⟩
  · replace h := zk_f h c8
    refine hr.1 2 True _ _ (15, [some (.ref 5)], [.int (zg_i q1 5 7)], [cb, 4, ln, pp], q1) rfl trivial ?_
    refine hr.2.1 _ (¬ zg_i q1 5 7 = 0) _ _ rfl (fun c15 => ?_) (fun c15 => ?_)
    · replace h := zk_t h c15
      refine hr.1 1 True _ _ (43, [some (.ref 5)], [.int 0], [cb, 4, ln, pp], q1) rfl trivial ?_
      exact hr.2.2.2 _ _ _ rfl (Or.inl rfl) ⟨(congrArg (fun x => some (Value.int x.1)) (Option.some.inj h)), (congrArg (fun x => (([cb, 4, ln, pp], x.2) : zx_S)) (Option.some.inj h))⟩
    · replace h := zk_f h c15
      refine hr.1 3 True _ _ (23, [some (.ref 5)], [.long 0, .long (zg_l q1 5 6)], [cb, 4, ln, pp], q1) rfl trivial ?_
      refine hr.2.1 _ (¬ zg_l q1 5 6 = 0) _ _ rfl (fun c23 => ?_) (fun c23 => ?_)
      · replace h := zk_t h c23
        refine hr.1 1 True _ _ (43, [some (.ref 5)], [.int 0], [cb, 4, ln, pp], q1) rfl trivial ?_
        exact hr.2.2.2 _ _ _ rfl (Or.inl rfl) ⟨(congrArg (fun x => some (Value.int x.1)) (Option.some.inj h)), (congrArg (fun x => (([cb, 4, ln, pp], x.2) : zx_S)) (Option.some.inj h))⟩
      · replace h := zk_f h c23
        refine hr.1 4 True _ _ (35, [some (.ref 5)], [.int (zg_i q1 5 5), .int (zg_i q1 5 4)], [cb, 4, ln, pp], q1) rfl trivial ?_
        refine hr.2.1 _ (¬ zg_i q1 5 4 = zg_i q1 5 5) _ _ rfl (fun c35 => ?_) (fun c35 => ?_)
        · replace h := zk_t h c35
          refine hr.1 1 True _ _ (43, [some (.ref 5)], [.int 0], [cb, 4, ln, pp], q1) rfl trivial ?_
          exact hr.2.2.2 _ _ _ rfl (Or.inl rfl) ⟨(congrArg (fun x => some (Value.int x.1)) (Option.some.inj h)), (congrArg (fun x => (([cb, 4, ln, pp], x.2) : zx_S)) (Option.some.inj h))⟩
        · replace h := zk_f h c35
          refine hr.1 2 True _ _ (43, [some (.ref 5)], [.int 1], [cb, 4, ln, pp], q1) rfl trivial ?_
          exact hr.2.2.2 _ _ _ rfl (Or.inr rfl) ⟨(congrArg (fun x => some (Value.int x.1)) (Option.some.inj h)), (congrArg (fun x => (([cb, 4, ln, pp], x.2) : zx_S)) (Option.some.inj h))⟩
set_option maxRecDepth 100000 in
set_option maxHeartbeats 4000000 in
theorem c_g_Row_byteBack_10 {l : Launch} {E : zx_E} {d : Nat} {cb sd ln pp : Nat} {x1 : Int32} {x2 : Int64} {D : zx_D} {q : Int32} (h : g_Row_byteBack_10 x1 x2 D = some q) : zx_MC l E 27 d [.ref 10, .int x1, .long x2] ([cb, sd, ln, pp], D) (fun v S => v = some (.int q) ∧ S = ([cb, sd, ln, pp], D)) := by
  refine zx_ofC (K := ck_Row_byteBack) rfl (by decide +kernel) rfl ok_Row_byteBack (Nat.le_of_ble_eq_true rfl) (fun Zp hr => ?_)
  show Zp (0, [some (.ref 10), some (.int x1), some (.long x2), none], [], [cb, sd, ln, pp], D)
  rw [g_Row_byteBack_10] at h
  refine hr.1 2 True _ _ (2, [some (.ref 10), some (.int x1), some (.long x2), none], [.long 1, .long x2], [cb, sd, ln, pp], D) rfl trivial ?_
  refine hr.2.1 _ (x2 < 1) _ _ rfl (fun c2 => ?_) (fun c2 => ?_)
  · replace h := zk_t h c2
    refine hr.1 1 True _ _ (23, [some (.ref 10), some (.int x1), some (.long x2), none], [.int 0], [cb, sd, ln, pp], D) rfl trivial ?_
    exact hr.2.2.2 _ _ _ rfl trivial ⟨(congrArg (fun x => some (Value.int x)) (Option.some.inj h)), rfl⟩
  · replace h := zk_f h c2
    refine hr.1 3 True _ _ (9, [some (.ref 10), some (.int x1), some (.long x2), none], [.long ((x1).toInt64), .long x2], [cb, sd, ln, pp], D) rfl trivial ?_
    refine hr.2.1 _ ((x1).toInt64 < x2) _ _ rfl (fun c9 => ?_) (fun c9 => ?_)
    · replace h := zk_t h c9
      refine hr.1 1 True _ _ (23, [some (.ref 10), some (.int x1), some (.long x2), none], [.int 0], [cb, sd, ln, pp], D) rfl trivial ?_
      exact hr.2.2.2 _ _ _ rfl trivial ⟨(congrArg (fun x => some (Value.int x)) (Option.some.inj h)), rfl⟩
    · replace h := zk_f h c9
      refine hr.1 4 True _ _ (19, [some (.ref 10), some (.int x1), some (.long x2), none], [.int 400, .int x1], [cb, sd, ln, pp], D) rfl trivial ?_
      refine hr.2.1 _ (x1 ≤ 400) _ _ rfl (fun c19 => ?_) (fun c19 => ?_)
      · replace h := zk_t h c19
        obtain ⟨w2, h⟩ := zk_ck h
        refine hr.1 7 True _ _ (33, [some (.ref 10), some (.int x1), some (.long x2), none], [.int (zg_i D 11 (zn (x1 - ((x2).toInt32))))], [cb, sd, ln, pp], D) rfl ⟨trivial, (zk_vp w2)⟩ ?_
        exact hr.2.2.2 _ _ _ rfl trivial ⟨(congrArg (fun x => some (Value.int x)) (Option.some.inj h)), rfl⟩
      · replace h := zk_f h c19
        refine hr.1 1 True _ _ (23, [some (.ref 10), some (.int x1), some (.long x2), none], [.int 0], [cb, sd, ln, pp], D) rfl trivial ?_
        exact hr.2.2.2 _ _ _ rfl trivial ⟨(congrArg (fun x => some (Value.int x)) (Option.some.inj h)), rfl⟩
set_option maxRecDepth 100000 in
set_option maxHeartbeats 4000000 in
theorem c_g_Lin_learn_5 {l : Launch} {E : zx_E} {d : Nat} {cb sd ln pp : Nat} {x1 : Int32} {x2 : Int32} {D : zx_D} {q : zx_D} (h : g_Lin_learn_5 x1 x2 D = some q) : zx_MC l E 180 d [.ref 5, .int x1, .int x2] ([cb, sd, ln, pp], D) (fun v S => v = none ∧ S = ([cb, sd, ln, pp], q)) := by
  refine zx_ofC (K := ck_Lin_learn) rfl (by decide +kernel) rfl ok_Lin_learn (Nat.le_of_ble_eq_true rfl) (fun Zp hr => ?_)
  show Zp (0, [some (.ref 5), some (.int x1), some (.int x2), none], [], [cb, sd, ln, pp], D)
  rw [g_Lin_learn_5] at h
  obtain ⟨w4, h⟩ := zk_ck h
  refine hr.1 9 True _ _ (13, [some (.ref 5), some (.int x1), some (.int x2), some (.int (zg_i D 6 (zn x1)))], [.int x2, .int x1, .ref 6], [cb, sd, ln, pp], D) rfl ⟨trivial, (zk_vp w4)⟩ ?_
  refine hr.2.1 _ (¬ x2 = 0) _ _ rfl (fun c13 => ?_) (fun c13 => ?_)
  · replace h := zk_t h c13
    obtain ⟨w5, h⟩ := zk_ck h
    refine hr.1 6 True _ _ (34, [some (.ref 5), some (.int x1), some (.int x2), some (.int (zg_i D 6 (zn x1)))], [], [cb, sd, ln, pp], zp_i D 6 (zn x1) ((zg_i D 6 (zn x1)) - (zo_shr (zg_i D 6 (zn x1)) 5))) rfl ⟨trivial, (zk_vp w5)⟩ ?_
    exact hr.2.2.2 _ _ _ rfl trivial ⟨rfl, (congrArg (fun x => (([cb, sd, ln, pp], x) : zx_S)) (Option.some.inj h))⟩
  · replace h := zk_f h c13
    obtain ⟨w6, h⟩ := zk_ck h
    refine hr.1 9 True _ _ (34, [some (.ref 5), some (.int x1), some (.int x2), some (.int (zg_i D 6 (zn x1)))], [], [cb, sd, ln, pp], zp_i D 6 (zn x1) ((zg_i D 6 (zn x1)) + (zo_shr (2048 - (zg_i D 6 (zn x1))) 5))) rfl ⟨trivial, (zk_vp w6)⟩ ?_
    exact hr.2.2.2 _ _ _ rfl trivial ⟨rfl, (congrArg (fun x => (([cb, sd, ln, pp], x) : zx_S)) (Option.some.inj h))⟩
set_option maxRecDepth 100000 in
set_option maxHeartbeats 4000000 in
theorem c_g_Src_keep {l : Launch} {E : zx_E} {d : Nat} {cb sd ln pp : Nat} {D : zx_D} {q : zx_D} (h : g_Src_keep D = some q) : zx_MC l E 48 d [.ref 5] ([cb, sd, ln, pp], D) (fun v S => v = none ∧ S = ([cb, sd, ln, pp], q)) := by
  refine zx_ofC (K := ck_Src_keep) rfl (by decide +kernel) rfl ok_Src_keep (Nat.le_of_ble_eq_true rfl) (fun Zp hr => ?_)
  show Zp (0, [some (.ref 5)], [], [cb, sd, ln, pp], D)
  rw [g_Src_keep] at h
  refine hr.1 10 True _ _ (18, [some (.ref 5)], [.int (zg_i D 5 9), .int ((zg_i D 5 8) + 1)], [cb, sd, ln, pp], zp_i D 5 8 ((zg_i D 5 8) + 1)) rfl trivial ?_
  refine hr.2.1 _ (¬ (zg_i D 5 8) + 1 = zg_i D 5 9) _ _ rfl (fun c18 => ?_) (fun c18 => ?_)
  · replace h := zk_t h c18
    exact hr.2.2.2 _ _ _ rfl trivial ⟨rfl, (congrArg (fun x => (([cb, sd, ln, pp], x) : zx_S)) (Option.some.inj h))⟩
  · replace h := zk_f h c18
    refine hr.1 8 True _ _ (37, [some (.ref 5)], [], [cb, sd, ln, pp], zp_l (zp_l (zp_i D 5 8 ((zg_i D 5 8) + 1)) 5 10 (zg_l D 5 1)) 5 11 (zg_l D 5 6)) rfl trivial ?_
    exact hr.2.2.2 _ _ _ rfl trivial ⟨rfl, (congrArg (fun x => (([cb, sd, ln, pp], x) : zx_S)) (Option.some.inj h))⟩
set_option maxRecDepth 100000 in
set_option maxHeartbeats 4000000 in
theorem c_g_Src_codeBit {l : Launch} {E : zx_E} {d : Nat} {cb ln pp : Nat} {x1 : Int32} {x2 : Int32} {D : zx_D} {q : Int32 × zx_D} (h : g_Src_codeBit x1 x2 D = some q) : zx_MC l E 46 (d + 1) [.ref 5, .int x1, .int x2] ([cb, 4, ln, pp], D) (fun v S => v = some (.int q.1) ∧ S = ([cb, 4, ln, pp], q.2)) := by
  refine zx_ofC (K := ck_Src_codeBit) rfl (by decide +kernel) rfl ok_Src_codeBit (Nat.le_of_ble_eq_true rfl) (fun Zp hr => ?_)
  show Zp (0, [some (.ref 5), some (.int x1), some (.int x2), none, none, none], [], [cb, 4, ln, pp], D)
  rw [g_Src_codeBit] at h
  refine hr.1 1 True _ _ (1, [some (.ref 5), some (.int x1), some (.int x2), none, none, none], [.ref 5], [cb, 4, ln, pp], D) rfl trivial ?_
  obtain ⟨q1, hc, h⟩ := zk_bind h
  refine hr.2.2.1 _ _ _ _ _ (d) rfl (by omega) (c_g_Src_shift (l := l) (E := E) (d := d) (cb := cb) (ln := ln) (pp := pp) hc) (fun v S hq => ?_)
  obtain ⟨rfl, rfl⟩ := hq
  clear hc
  refine hr.1 2 True _ _ (8, [some (.ref 5), some (.int x1), some (.int x2), none, none, none], [.int (zg_i q1 5 2)], [cb, 4, ln, pp], q1) rfl trivial ?_
  refine hr.2.1 _ (zg_i q1 5 2 = 0) _ _ rfl (fun c8 => ?_) (fun c8 => ?_)
  · replace h := zk_t h c8
    obtain ⟨w2, h⟩ := zk_ck h
    refine hr.1 13 True _ _ (33, [some (.ref 5), some (.int x1), some (.int x2), some (.long ((zo_lushr (zg_l q1 5 1) 11) * (((zg_i q1 6 (zn x1))).toInt64))), none, none], [.int (zg_i q1 5 7)], [cb, 4, ln, pp], q1) rfl ⟨trivial, (zk_vp w2)⟩ ?_
    obtain ⟨q2, hj, h⟩ := zk_bind h
    have J50 : ∀ (_ : True), Zp (50, [some (.ref 5), some (.int x1), some (.int x2), some (.long ((zo_lushr (zg_l q1 5 1) 11) * (((zg_i q1 6 (zn x1))).toInt64))), none, none], [.int q2], [cb, 4, ln, pp], q1) := by
      intro _
      refine hr.1 2 True _ _ (54, [some (.ref 5), some (.int x1), some (.int x2), some (.long ((zo_lushr (zg_l q1 5 1) 11) * (((zg_i q1 6 (zn x1))).toInt64))), none, some (.int q2)], [.int q2], [cb, 4, ln, pp], q1) rfl trivial ?_
      obtain ⟨q3, hj, h⟩ := zk_bind h
      have J85 : ∀ (_ : True), Zp (85, [some (.ref 5), some (.int x1), some (.int x2), some (.long ((zo_lushr (zg_l q1 5 1) 11) * (((zg_i q1 6 (zn x1))).toInt64))), none, some (.int q2)], [], [cb, 4, ln, pp], q3) := by
        intro _
        refine hr.1 3 True _ _ (89, [some (.ref 5), some (.int x1), some (.int x2), some (.long ((zo_lushr (zg_l q1 5 1) 11) * (((zg_i q1 6 (zn x1))).toInt64))), none, some (.int q2)], [.int q2, .int x1, .ref 5], [cb, 4, ln, pp], q3) rfl trivial ?_
        obtain ⟨q4, hc, h⟩ := zk_bind h
        refine hr.2.2.1 _ _ _ _ _ (d) rfl (by omega) (c_g_Lin_learn_5 (l := l) (E := E) (d := d) (cb := cb) (sd := 4) (ln := ln) (pp := pp) hc) (fun v S hq => ?_)
        obtain ⟨rfl, rfl⟩ := hq
        clear hc
        refine hr.1 1 True _ _ (93, [some (.ref 5), some (.int x1), some (.int x2), some (.long ((zo_lushr (zg_l q1 5 1) 11) * (((zg_i q1 6 (zn x1))).toInt64))), none, some (.int q2)], [.ref 5], [cb, 4, ln, pp], q4) rfl trivial ?_
        obtain ⟨q5, hc, h⟩ := zk_bind h
        refine hr.2.2.1 _ _ _ _ _ (d) rfl (by omega) (c_g_Src_keep (l := l) (E := E) (d := d) (cb := cb) (sd := 4) (ln := ln) (pp := pp) hc) (fun v S hq => ?_)
        obtain ⟨rfl, rfl⟩ := hq
        clear hc
        refine hr.1 1 True _ _ (98, [some (.ref 5), some (.int x1), some (.int x2), some (.long ((zo_lushr (zg_l q1 5 1) 11) * (((zg_i q1 6 (zn x1))).toInt64))), none, some (.int q2)], [.int q2], [cb, 4, ln, pp], q5) rfl trivial ?_
        exact hr.2.2.2 _ _ _ rfl trivial ⟨(congrArg (fun x => some (Value.int x.1)) (Option.some.inj h)), (congrArg (fun x => (([cb, 4, ln, pp], x.2) : zx_S)) (Option.some.inj h))⟩
      clear h
      have h := hj
      clear hj
      refine hr.2.1 _ (¬ q2 = 0) _ _ rfl (fun c54 => ?_) (fun c54 => ?_)
      · replace h := zk_t h c54
        refine hr.1 12 True _ _ (85, [some (.ref 5), some (.int x1), some (.int x2), some (.long ((zo_lushr (zg_l q1 5 1) 11) * (((zg_i q1 6 (zn x1))).toInt64))), none, some (.int q2)], [], [cb, 4, ln, pp], zp_l (zp_l q1 5 1 ((zg_l q1 5 1) - ((zo_lushr (zg_l q1 5 1) 11) * (((zg_i q1 6 (zn x1))).toInt64)))) 5 6 ((zg_l q1 5 6) - ((zo_lushr (zg_l q1 5 1) 11) * (((zg_i q1 6 (zn x1))).toInt64)))) rfl trivial ?_
        replace h := Option.some.inj h
        subst h
        exact J85 trivial
      · replace h := zk_f h c54
        refine hr.1 4 True _ _ (85, [some (.ref 5), some (.int x1), some (.int x2), some (.long ((zo_lushr (zg_l q1 5 1) 11) * (((zg_i q1 6 (zn x1))).toInt64))), none, some (.int q2)], [], [cb, 4, ln, pp], zp_l q1 5 1 ((zo_lushr (zg_l q1 5 1) 11) * (((zg_i q1 6 (zn x1))).toInt64))) rfl trivial ?_
        replace h := Option.some.inj h
        subst h
        exact J85 trivial
    clear h
    have h := hj
    clear hj
    refine hr.2.1 _ (¬ zg_i q1 5 7 = 0) _ _ rfl (fun c33 => ?_) (fun c33 => ?_)
    · replace h := zk_t h c33
      refine hr.1 2 True _ _ (50, [some (.ref 5), some (.int x1), some (.int x2), some (.long ((zo_lushr (zg_l q1 5 1) 11) * (((zg_i q1 6 (zn x1))).toInt64))), none, none], [.int 1], [cb, 4, ln, pp], q1) rfl trivial ?_
      replace h := Option.some.inj h
      subst h
      exact J50 trivial
    · replace h := zk_f h c33
      refine hr.1 3 True _ _ (41, [some (.ref 5), some (.int x1), some (.int x2), some (.long ((zo_lushr (zg_l q1 5 1) 11) * (((zg_i q1 6 (zn x1))).toInt64))), none, none], [.long ((zo_lushr (zg_l q1 5 1) 11) * (((zg_i q1 6 (zn x1))).toInt64)), .long (zg_l q1 5 6)], [cb, 4, ln, pp], q1) rfl trivial ?_
      refine hr.2.1 _ (zg_l q1 5 6 < (zo_lushr (zg_l q1 5 1) 11) * (((zg_i q1 6 (zn x1))).toInt64)) _ _ rfl (fun c41 => ?_) (fun c41 => ?_)
      · replace h := zk_t h c41
        refine hr.1 1 True _ _ (50, [some (.ref 5), some (.int x1), some (.int x2), some (.long ((zo_lushr (zg_l q1 5 1) 11) * (((zg_i q1 6 (zn x1))).toInt64))), none, none], [.int 0], [cb, 4, ln, pp], q1) rfl trivial ?_
        replace h := Option.some.inj h
        subst h
        exact J50 trivial
      · replace h := zk_f h c41
        refine hr.1 2 True _ _ (50, [some (.ref 5), some (.int x1), some (.int x2), some (.long ((zo_lushr (zg_l q1 5 1) 11) * (((zg_i q1 6 (zn x1))).toInt64))), none, none], [.int 1], [cb, 4, ln, pp], q1) rfl trivial ?_
        replace h := Option.some.inj h
        subst h
        exact J50 trivial
  · replace h := zk_f h c8
    refine hr.1 1 True _ _ (12, [some (.ref 5), some (.int x1), some (.int x2), none, none, none], [.int 0], [cb, 4, ln, pp], q1) rfl trivial ?_
    exact hr.2.2.2 _ _ _ rfl trivial ⟨(congrArg (fun x => some (Value.int x.1)) (Option.some.inj h)), (congrArg (fun x => (([cb, 4, ln, pp], x.2) : zx_S)) (Option.some.inj h))⟩
set_option maxRecDepth 100000 in
set_option maxHeartbeats 4000000 in
theorem c_g_Mdl_codeKind_s {l : Launch} {E : zx_E} {d : Nat} {cb pp : Nat} {x1 : Int32} {D : zx_D} {q : Int32 × zx_D} (h : g_Mdl_codeKind_s x1 D = some q) : zx_MC l E 62 (d + 2) [.ref 7, .int x1] ([cb, 4, 5, pp], D) (fun v S => v = some (.int q.1) ∧ S = ([cb, 4, 5, pp], q.2)) := by
  refine zx_ofC (K := ck_Mdl_codeKind) rfl (by decide +kernel) rfl ok_Mdl_codeKind (Nat.le_of_ble_eq_true rfl) (fun Zp hr => ?_)
  show Zp (0, [some (.ref 7), some (.int x1), none], [], [cb, 4, 5, pp], D)
  rw [g_Mdl_codeKind_s] at h
  refine hr.1 13 True _ _ (20, [some (.ref 7), some (.int x1), none], [.int 1, .int (zg_i D 7 7), .int ((0 + ((zg_i D 7 2) * 16)) + x1), .ref 5], [cb, 4, 5, pp], D) rfl trivial ?_
  obtain ⟨q1, hj, h⟩ := zk_bind h
  have J28 : ∀ (_ : True), Zp (28, [some (.ref 7), some (.int x1), none], [.int q1, .int ((0 + ((zg_i D 7 2) * 16)) + x1), .ref 5], [cb, 4, 5, pp], D) := by
    intro _
    obtain ⟨q2, hc, h⟩ := zk_bind h
    refine hr.2.2.1 _ _ _ _ _ (d + 1) rfl (by omega) (c_g_Src_codeBit (l := l) (E := E) (d := d) (cb := cb) (ln := 5) (pp := pp) hc) (fun v S hq => ?_)
    obtain ⟨rfl, rfl⟩ := hq
    clear hc
    refine hr.2.1 _ (¬ q2.1 = 0) _ _ rfl (fun c31 => ?_) (fun c31 => ?_)
    · replace h := zk_t h c31
      refine hr.1 9 True _ _ (53, [some (.ref 7), some (.int x1), none], [.int 2, .int (zg_i q2.2 7 7), .int (384 + (zg_i q2.2 7 2)), .ref 5], [cb, 4, 5, pp], q2.2) rfl trivial ?_
      obtain ⟨q3, hj, h⟩ := zk_bind h
      have J61 : ∀ (_ : True), Zp (61, [some (.ref 7), some (.int x1), none], [.int q3, .int (384 + (zg_i q2.2 7 2)), .ref 5], [cb, 4, 5, pp], q2.2) := by
        intro _
        obtain ⟨q4, hc, h⟩ := zk_bind h
        refine hr.2.2.1 _ _ _ _ _ (d + 1) rfl (by omega) (c_g_Src_codeBit (l := l) (E := E) (d := d) (cb := cb) (ln := 5) (pp := pp) hc) (fun v S hq => ?_)
        obtain ⟨rfl, rfl⟩ := hq
        clear hc
        refine hr.2.1 _ (¬ q4.1 = 0) _ _ rfl (fun c64 => ?_) (fun c64 => ?_)
        · replace h := zk_t h c64
          refine hr.1 9 True _ _ (86, [some (.ref 7), some (.int x1), none], [.int 4, .int (zg_i q4.2 7 7), .int (396 + (zg_i q4.2 7 2)), .ref 5], [cb, 4, 5, pp], q4.2) rfl trivial ?_
          obtain ⟨q5, hj, h⟩ := zk_bind h
          have J94 : ∀ (_ : True), Zp (94, [some (.ref 7), some (.int x1), none], [.int q5, .int (396 + (zg_i q4.2 7 2)), .ref 5], [cb, 4, 5, pp], q4.2) := by
            intro _
            obtain ⟨q6, hc, h⟩ := zk_bind h
            refine hr.2.2.1 _ _ _ _ _ (d + 1) rfl (by omega) (c_g_Src_codeBit (l := l) (E := E) (d := d) (cb := cb) (ln := 5) (pp := pp) hc) (fun v S hq => ?_)
            obtain ⟨rfl, rfl⟩ := hq
            clear hc
            refine hr.2.1 _ (¬ q6.1 = 0) _ _ rfl (fun c97 => ?_) (fun c97 => ?_)
            · replace h := zk_t h c97
              refine hr.1 9 True _ _ (161, [some (.ref 7), some (.int x1), none], [.int 5, .int (zg_i q6.2 7 7), .int (408 + (zg_i q6.2 7 2)), .ref 5], [cb, 4, 5, pp], q6.2) rfl trivial ?_
              obtain ⟨q7, hj, h⟩ := zk_bind h
              have J169 : ∀ (_ : True), Zp (169, [some (.ref 7), some (.int x1), none], [.int q7, .int (408 + (zg_i q6.2 7 2)), .ref 5], [cb, 4, 5, pp], q6.2) := by
                intro _
                obtain ⟨q8, hc, h⟩ := zk_bind h
                refine hr.2.2.1 _ _ _ _ _ (d + 1) rfl (by omega) (c_g_Src_codeBit (l := l) (E := E) (d := d) (cb := cb) (ln := 5) (pp := pp) hc) (fun v S hq => ?_)
                obtain ⟨rfl, rfl⟩ := hq
                clear hc
                refine hr.2.1 _ (¬ q8.1 = 0) _ _ rfl (fun c172 => ?_) (fun c172 => ?_)
                · replace h := zk_t h c172
                  refine hr.1 10 True _ _ (197, [some (.ref 7), some (.int x1), none], [.int 6, .int (zg_i q8.2 7 7), .int (420 + (zg_i q8.2 7 2)), .ref 5, .int 6], [cb, 4, 5, pp], q8.2) rfl trivial ?_
                  refine hr.2.1 _ (zg_i q8.2 7 7 ≤ 6) _ _ rfl (fun c197 => ?_) (fun c197 => ?_)
                  · replace h := zk_t h c197
                    refine hr.1 1 True _ _ (205, [some (.ref 7), some (.int x1), none], [.int 0, .int (420 + (zg_i q8.2 7 2)), .ref 5, .int 6], [cb, 4, 5, pp], q8.2) rfl trivial ?_
                    obtain ⟨q9, hc, h⟩ := zk_bind h
                    refine hr.2.2.1 _ _ _ _ _ (d + 1) rfl (by omega) (c_g_Src_codeBit (l := l) (E := E) (d := d) (cb := cb) (ln := 5) (pp := pp) hc) (fun v S hq => ?_)
                    obtain ⟨rfl, rfl⟩ := hq
                    clear hc
                    refine hr.1 1 True _ _ (209, [some (.ref 7), some (.int x1), none], [.int (6 + q9.1)], [cb, 4, 5, pp], q9.2) rfl trivial ?_
                    exact hr.2.2.2 _ _ _ rfl trivial ⟨(congrArg (fun x => some (Value.int x.1)) (Option.some.inj h)), (congrArg (fun x => (([cb, 4, 5, pp], x.2) : zx_S)) (Option.some.inj h))⟩
                  · replace h := zk_f h c197
                    refine hr.1 2 True _ _ (205, [some (.ref 7), some (.int x1), none], [.int 1, .int (420 + (zg_i q8.2 7 2)), .ref 5, .int 6], [cb, 4, 5, pp], q8.2) rfl trivial ?_
                    obtain ⟨q10, hc, h⟩ := zk_bind h
                    refine hr.2.2.1 _ _ _ _ _ (d + 1) rfl (by omega) (c_g_Src_codeBit (l := l) (E := E) (d := d) (cb := cb) (ln := 5) (pp := pp) hc) (fun v S hq => ?_)
                    obtain ⟨rfl, rfl⟩ := hq
                    clear hc
                    refine hr.1 1 True _ _ (209, [some (.ref 7), some (.int x1), none], [.int (6 + q10.1)], [cb, 4, 5, pp], q10.2) rfl trivial ?_
                    exact hr.2.2.2 _ _ _ rfl trivial ⟨(congrArg (fun x => some (Value.int x.1)) (Option.some.inj h)), (congrArg (fun x => (([cb, 4, 5, pp], x.2) : zx_S)) (Option.some.inj h))⟩
                · replace h := zk_f h c172
                  refine hr.1 1 True _ _ (176, [some (.ref 7), some (.int x1), none], [.int 5], [cb, 4, 5, pp], q8.2) rfl trivial ?_
                  exact hr.2.2.2 _ _ _ rfl trivial ⟨(congrArg (fun x => some (Value.int x.1)) (Option.some.inj h)), (congrArg (fun x => (([cb, 4, 5, pp], x.2) : zx_S)) (Option.some.inj h))⟩
              clear h
              have h := hj
              clear hj
              refine hr.2.1 _ (zg_i q6.2 7 7 ≤ 5) _ _ rfl (fun c161 => ?_) (fun c161 => ?_)
              · replace h := zk_t h c161
                refine hr.1 1 True _ _ (169, [some (.ref 7), some (.int x1), none], [.int 0, .int (408 + (zg_i q6.2 7 2)), .ref 5], [cb, 4, 5, pp], q6.2) rfl trivial ?_
                replace h := Option.some.inj h
                subst h
                exact J169 trivial
              · replace h := zk_f h c161
                refine hr.1 2 True _ _ (169, [some (.ref 7), some (.int x1), none], [.int 1, .int (408 + (zg_i q6.2 7 2)), .ref 5], [cb, 4, 5, pp], q6.2) rfl trivial ?_
                replace h := Option.some.inj h
                subst h
                exact J169 trivial
            · replace h := zk_f h c97
              refine hr.1 13 True _ _ (122, [some (.ref 7), some (.int x1), none], [.int 4, .int (zg_i q6.2 7 7), .int ((192 + ((zg_i q6.2 7 2) * 16)) + x1), .ref 5], [cb, 4, 5, pp], q6.2) rfl trivial ?_
              refine hr.2.1 _ (¬ zg_i q6.2 7 7 = 4) _ _ rfl (fun c122 => ?_) (fun c122 => ?_)
              · replace h := zk_t h c122
                refine hr.1 1 True _ _ (130, [some (.ref 7), some (.int x1), none], [.int 0, .int ((192 + ((zg_i q6.2 7 2) * 16)) + x1), .ref 5], [cb, 4, 5, pp], q6.2) rfl trivial ?_
                obtain ⟨q11, hc, h⟩ := zk_bind h
                refine hr.2.2.1 _ _ _ _ _ (d + 1) rfl (by omega) (c_g_Src_codeBit (l := l) (E := E) (d := d) (cb := cb) (ln := 5) (pp := pp) hc) (fun v S hq => ?_)
                obtain ⟨rfl, rfl⟩ := hq
                clear hc
                refine hr.1 2 True _ _ (135, [some (.ref 7), some (.int x1), some (.int q11.1)], [.int q11.1], [cb, 4, 5, pp], q11.2) rfl trivial ?_
                refine hr.2.1 _ (¬ q11.1 = 0) _ _ rfl (fun c135 => ?_) (fun c135 => ?_)
                · replace h := zk_t h c135
                  refine hr.1 1 True _ _ (143, [some (.ref 7), some (.int x1), some (.int q11.1)], [.int 4], [cb, 4, 5, pp], q11.2) rfl trivial ?_
                  exact hr.2.2.2 _ _ _ rfl trivial ⟨(congrArg (fun x => some (Value.int x.1)) (Option.some.inj h)), (congrArg (fun x => (([cb, 4, 5, pp], x.2) : zx_S)) (Option.some.inj h))⟩
                · replace h := zk_f h c135
                  refine hr.1 2 True _ _ (143, [some (.ref 7), some (.int x1), some (.int q11.1)], [.int 3], [cb, 4, 5, pp], q11.2) rfl trivial ?_
                  exact hr.2.2.2 _ _ _ rfl trivial ⟨(congrArg (fun x => some (Value.int x.1)) (Option.some.inj h)), (congrArg (fun x => (([cb, 4, 5, pp], x.2) : zx_S)) (Option.some.inj h))⟩
              · replace h := zk_f h c122
                refine hr.1 2 True _ _ (130, [some (.ref 7), some (.int x1), none], [.int 1, .int ((192 + ((zg_i q6.2 7 2) * 16)) + x1), .ref 5], [cb, 4, 5, pp], q6.2) rfl trivial ?_
                obtain ⟨q12, hc, h⟩ := zk_bind h
                refine hr.2.2.1 _ _ _ _ _ (d + 1) rfl (by omega) (c_g_Src_codeBit (l := l) (E := E) (d := d) (cb := cb) (ln := 5) (pp := pp) hc) (fun v S hq => ?_)
                obtain ⟨rfl, rfl⟩ := hq
                clear hc
                refine hr.1 2 True _ _ (135, [some (.ref 7), some (.int x1), some (.int q12.1)], [.int q12.1], [cb, 4, 5, pp], q12.2) rfl trivial ?_
                refine hr.2.1 _ (¬ q12.1 = 0) _ _ rfl (fun c135 => ?_) (fun c135 => ?_)
                · replace h := zk_t h c135
                  refine hr.1 1 True _ _ (143, [some (.ref 7), some (.int x1), some (.int q12.1)], [.int 4], [cb, 4, 5, pp], q12.2) rfl trivial ?_
                  exact hr.2.2.2 _ _ _ rfl trivial ⟨(congrArg (fun x => some (Value.int x.1)) (Option.some.inj h)), (congrArg (fun x => (([cb, 4, 5, pp], x.2) : zx_S)) (Option.some.inj h))⟩
                · replace h := zk_f h c135
                  refine hr.1 2 True _ _ (143, [some (.ref 7), some (.int x1), some (.int q12.1)], [.int 3], [cb, 4, 5, pp], q12.2) rfl trivial ?_
                  exact hr.2.2.2 _ _ _ rfl trivial ⟨(congrArg (fun x => some (Value.int x.1)) (Option.some.inj h)), (congrArg (fun x => (([cb, 4, 5, pp], x.2) : zx_S)) (Option.some.inj h))⟩
          clear h
          have h := hj
          clear hj
          refine hr.2.1 _ (zg_i q4.2 7 7 ≤ 4) _ _ rfl (fun c86 => ?_) (fun c86 => ?_)
          · replace h := zk_t h c86
            refine hr.1 1 True _ _ (94, [some (.ref 7), some (.int x1), none], [.int 0, .int (396 + (zg_i q4.2 7 2)), .ref 5], [cb, 4, 5, pp], q4.2) rfl trivial ?_
            replace h := Option.some.inj h
            subst h
            exact J94 trivial
          · replace h := zk_f h c86
            refine hr.1 2 True _ _ (94, [some (.ref 7), some (.int x1), none], [.int 1, .int (396 + (zg_i q4.2 7 2)), .ref 5], [cb, 4, 5, pp], q4.2) rfl trivial ?_
            replace h := Option.some.inj h
            subst h
            exact J94 trivial
        · replace h := zk_f h c64
          refine hr.1 1 True _ _ (68, [some (.ref 7), some (.int x1), none], [.int 2], [cb, 4, 5, pp], q4.2) rfl trivial ?_
          exact hr.2.2.2 _ _ _ rfl trivial ⟨(congrArg (fun x => some (Value.int x.1)) (Option.some.inj h)), (congrArg (fun x => (([cb, 4, 5, pp], x.2) : zx_S)) (Option.some.inj h))⟩
      clear h
      have h := hj
      clear hj
      refine hr.2.1 _ (¬ zg_i q2.2 7 7 = 2) _ _ rfl (fun c53 => ?_) (fun c53 => ?_)
      · replace h := zk_t h c53
        refine hr.1 1 True _ _ (61, [some (.ref 7), some (.int x1), none], [.int 1, .int (384 + (zg_i q2.2 7 2)), .ref 5], [cb, 4, 5, pp], q2.2) rfl trivial ?_
        replace h := Option.some.inj h
        subst h
        exact J61 trivial
      · replace h := zk_f h c53
        refine hr.1 2 True _ _ (61, [some (.ref 7), some (.int x1), none], [.int 0, .int (384 + (zg_i q2.2 7 2)), .ref 5], [cb, 4, 5, pp], q2.2) rfl trivial ?_
        replace h := Option.some.inj h
        subst h
        exact J61 trivial
    · replace h := zk_f h c31
      refine hr.1 1 True _ _ (35, [some (.ref 7), some (.int x1), none], [.int 1], [cb, 4, 5, pp], q2.2) rfl trivial ?_
      exact hr.2.2.2 _ _ _ rfl trivial ⟨(congrArg (fun x => some (Value.int x.1)) (Option.some.inj h)), (congrArg (fun x => (([cb, 4, 5, pp], x.2) : zx_S)) (Option.some.inj h))⟩
  clear h
  have h := hj
  clear hj
  refine hr.2.1 _ (¬ zg_i D 7 7 = 1) _ _ rfl (fun c20 => ?_) (fun c20 => ?_)
  · replace h := zk_t h c20
    refine hr.1 1 True _ _ (28, [some (.ref 7), some (.int x1), none], [.int 1, .int ((0 + ((zg_i D 7 2) * 16)) + x1), .ref 5], [cb, 4, 5, pp], D) rfl trivial ?_
    replace h := Option.some.inj h
    subst h
    exact J28 trivial
  · replace h := zk_f h c20
    refine hr.1 2 True _ _ (28, [some (.ref 7), some (.int x1), none], [.int 0, .int ((0 + ((zg_i D 7 2) * 16)) + x1), .ref 5], [cb, 4, 5, pp], D) rfl trivial ?_
    replace h := Option.some.inj h
    subst h
    exact J28 trivial
set_option maxRecDepth 100000 in
set_option maxHeartbeats 4000000 in
theorem c_g_Mdl_codeTree_s {l : Launch} {E : zx_E} {d : Nat} {cb pp : Nat} {x1 : Int32} {x2 : Int32} {x3 : Int32} {D : zx_D} {q : Int32 × zx_D} (h : g_Mdl_codeTree_s x1 x2 x3 D = some q) : zx_MC l E 67 (d + 2) [.ref 7, .int x1, .int x2, .int x3] ([cb, 4, 5, pp], D) (fun v S => v = some (.int q.1) ∧ S = ([cb, 4, 5, pp], q.2)) := by
  refine zx_ofC (K := ck_Mdl_codeTree) rfl (by decide +kernel) rfl ok_Mdl_codeTree (Nat.le_of_ble_eq_true rfl) (fun Zp hr => ?_)
  show Zp (0, [some (.ref 7), some (.int x1), some (.int x2), some (.int x3), none, none], [], [cb, 4, 5, pp], D)
  have loop8 : ∀ (x1 : Int32) (x2 : Int32) (x3 : Int32) (k : Nat) (x4 : Int32) (x5 : Int32) (D : zx_D) (q : Int32 × zx_D), g_Mdl_codeTree_s_8 x1 x2 x3 k x4 x5 D = some q → (∀ (e5 : Int32), Zp (43, [some (.ref 7), some (.int x1), some (.int x2), some (.int x3), some (.int q.1), some (.int e5)], [], [cb, 4, 5, pp], q.2)) → Zp (8, [some (.ref 7), some (.int x1), some (.int x2), some (.int x3), some (.int x4), some (.int x5)], [], [cb, 4, 5, pp], D) := by
    intro x1 x2 x3 k
    induction k with
    | zero => intro x4 x5 D q h hx; exact (zk_no h).elim
    | succ k ih =>
      intro x4 x5 D q h hx
      rw [g_Mdl_codeTree_s_8] at h
      refine hr.1 1 True _ _ (10, [some (.ref 7), some (.int x1), some (.int x2), some (.int x3), some (.int x4), some (.int x5)], [.int x5], [cb, 4, 5, pp], D) rfl trivial ?_
      refine hr.2.1 _ (x5 < 0) _ _ rfl (fun c10 => ?_) (fun c10 => ?_)
      · replace h := zk_t h c10
        replace h := Option.some.inj h
        subst h
        exact hx x5
      · replace h := zk_f h c10
        refine hr.1 13 True _ _ (31, [some (.ref 7), some (.int x1), some (.int x2), some (.int x3), some (.int x4), some (.int x5)], [.int ((zo_ushr x3 x5) &&& 1), .int (x1 + x4), .ref 5, .int (2 * x4)], [cb, 4, 5, pp], D) rfl trivial ?_
        obtain ⟨q1, hc, h⟩ := zk_bind h
        refine hr.2.2.1 _ _ _ _ _ (d + 1) rfl (by omega) (c_g_Src_codeBit (l := l) (E := E) (d := d) (cb := cb) (ln := 5) (pp := pp) hc) (fun v S hq => ?_)
        obtain ⟨rfl, rfl⟩ := hq
        clear hc
        refine hr.1 4 True _ _ (8, [some (.ref 7), some (.int x1), some (.int x2), some (.int x3), some (.int ((2 * x4) + q1.1)), some (.int (x5 + (-1)))], [], [cb, 4, 5, pp], q1.2) rfl trivial ?_
        exact ih ((2 * x4) + q1.1) (x5 + (-1)) q1.2 _ h hx
  rw [g_Mdl_codeTree_s] at h
  refine hr.1 6 True _ _ (8, [some (.ref 7), some (.int x1), some (.int x2), some (.int x3), some (.int 1), some (.int (x2 - 1))], [], [cb, 4, 5, pp], D) rfl trivial ?_
  obtain ⟨q2, hc, h⟩ := zk_bind h
  refine loop8 x1 x2 x3 10000 1 (x2 - 1) D q2 hc (fun e5 => ?_)
  clear hc
  refine hr.1 5 True _ _ (49, [some (.ref 7), some (.int x1), some (.int x2), some (.int x3), some (.int q2.1), some (.int e5)], [.int (q2.1 - (zo_shl 1 x2))], [cb, 4, 5, pp], q2.2) rfl trivial ?_
  exact hr.2.2.2 _ _ _ rfl trivial ⟨(congrArg (fun x => some (Value.int x.1)) (Option.some.inj h)), (congrArg (fun x => (([cb, 4, 5, pp], x.2) : zx_S)) (Option.some.inj h))⟩
set_option maxRecDepth 100000 in
set_option maxHeartbeats 4000000 in
theorem c_g_Mdl_codeLength_s {l : Launch} {E : zx_E} {d : Nat} {cb pp : Nat} {x1 : Int32} {x2 : Int32} {D : zx_D} {q : Int32 × zx_D} (h : g_Mdl_codeLength_s x1 x2 D = some q) : zx_MC l E 64 (d + 3) [.ref 7, .int x1, .int x2] ([cb, 4, 5, pp], D) (fun v S => v = some (.int q.1) ∧ S = ([cb, 4, 5, pp], q.2)) := by
  refine zx_ofC (K := ck_Mdl_codeLength) rfl (by decide +kernel) rfl ok_Mdl_codeLength (Nat.le_of_ble_eq_true rfl) (fun Zp hr => ?_)
  show Zp (0, [some (.ref 7), some (.int x1), some (.int x2)], [], [cb, 4, 5, pp], D)
  rw [g_Mdl_codeLength_s] at h
  refine hr.1 6 True _ _ (11, [some (.ref 7), some (.int x1), some (.int x2)], [.int 10, .int (zg_i D 7 9), .int x1, .ref 5], [cb, 4, 5, pp], D) rfl trivial ?_
  obtain ⟨q1, hj, h⟩ := zk_bind h
  have J19 : ∀ (_ : True), Zp (19, [some (.ref 7), some (.int x1), some (.int x2)], [.int q1, .int x1, .ref 5], [cb, 4, 5, pp], D) := by
    intro _
    obtain ⟨q2, hc, h⟩ := zk_bind h
    refine hr.2.2.1 _ _ _ _ _ (d + 2) rfl (by omega) (c_g_Src_codeBit (l := l) (E := E) (d := d + 1) (cb := cb) (ln := 5) (pp := pp) hc) (fun v S hq => ?_)
    obtain ⟨rfl, rfl⟩ := hq
    clear hc
    refine hr.2.1 _ (¬ q2.1 = 0) _ _ rfl (fun c22 => ?_) (fun c22 => ?_)
    · replace h := zk_t h c22
      refine hr.1 8 True _ _ (60, [some (.ref 7), some (.int x1), some (.int x2)], [.int 18, .int (zg_i q2.2 7 9), .int (x1 + 1), .ref 5], [cb, 4, 5, pp], q2.2) rfl trivial ?_
      obtain ⟨q3, hj, h⟩ := zk_bind h
      have J68 : ∀ (_ : True), Zp (68, [some (.ref 7), some (.int x1), some (.int x2)], [.int q3, .int (x1 + 1), .ref 5], [cb, 4, 5, pp], q2.2) := by
        intro _
        obtain ⟨q4, hc, h⟩ := zk_bind h
        refine hr.2.2.1 _ _ _ _ _ (d + 2) rfl (by omega) (c_g_Src_codeBit (l := l) (E := E) (d := d + 1) (cb := cb) (ln := 5) (pp := pp) hc) (fun v S hq => ?_)
        obtain ⟨rfl, rfl⟩ := hq
        clear hc
        refine hr.2.1 _ (¬ q4.1 = 0) _ _ rfl (fun c71 => ?_) (fun c71 => ?_)
        · replace h := zk_t h c71
          refine hr.1 10 True _ _ (117, [some (.ref 7), some (.int x1), some (.int x2)], [.int ((zg_i q4.2 7 9) - 18), .int 8, .int (x1 + 258), .ref 7, .int 18], [cb, 4, 5, pp], q4.2) rfl trivial ?_
          obtain ⟨q5, hc, h⟩ := zk_bind h
          refine hr.2.2.1 _ _ _ _ _ (d + 2) rfl (by omega) (c_g_Mdl_codeTree_s (l := l) (E := E) (d := d) (cb := cb) (pp := pp) hc) (fun v S hq => ?_)
          obtain ⟨rfl, rfl⟩ := hq
          clear hc
          refine hr.1 1 True _ _ (121, [some (.ref 7), some (.int x1), some (.int x2)], [.int (18 + q5.1)], [cb, 4, 5, pp], q5.2) rfl trivial ?_
          exact hr.2.2.2 _ _ _ rfl trivial ⟨(congrArg (fun x => some (Value.int x.1)) (Option.some.inj h)), (congrArg (fun x => (([cb, 4, 5, pp], x.2) : zx_S)) (Option.some.inj h))⟩
        · replace h := zk_f h c71
          refine hr.1 14 True _ _ (95, [some (.ref 7), some (.int x1), some (.int x2)], [.int ((zg_i q4.2 7 9) - 10), .int 3, .int ((x1 + 130) + (8 * x2)), .ref 7, .int 10], [cb, 4, 5, pp], q4.2) rfl trivial ?_
          obtain ⟨q6, hc, h⟩ := zk_bind h
          refine hr.2.2.1 _ _ _ _ _ (d + 2) rfl (by omega) (c_g_Mdl_codeTree_s (l := l) (E := E) (d := d) (cb := cb) (pp := pp) hc) (fun v S hq => ?_)
          obtain ⟨rfl, rfl⟩ := hq
          clear hc
          refine hr.1 1 True _ _ (99, [some (.ref 7), some (.int x1), some (.int x2)], [.int (10 + q6.1)], [cb, 4, 5, pp], q6.2) rfl trivial ?_
          exact hr.2.2.2 _ _ _ rfl trivial ⟨(congrArg (fun x => some (Value.int x.1)) (Option.some.inj h)), (congrArg (fun x => (([cb, 4, 5, pp], x.2) : zx_S)) (Option.some.inj h))⟩
      clear h
      have h := hj
      clear hj
      refine hr.2.1 _ (18 ≤ zg_i q2.2 7 9) _ _ rfl (fun c60 => ?_) (fun c60 => ?_)
      · replace h := zk_t h c60
        refine hr.1 1 True _ _ (68, [some (.ref 7), some (.int x1), some (.int x2)], [.int 1, .int (x1 + 1), .ref 5], [cb, 4, 5, pp], q2.2) rfl trivial ?_
        replace h := Option.some.inj h
        subst h
        exact J68 trivial
      · replace h := zk_f h c60
        refine hr.1 2 True _ _ (68, [some (.ref 7), some (.int x1), some (.int x2)], [.int 0, .int (x1 + 1), .ref 5], [cb, 4, 5, pp], q2.2) rfl trivial ?_
        replace h := Option.some.inj h
        subst h
        exact J68 trivial
    · replace h := zk_f h c22
      refine hr.1 14 True _ _ (42, [some (.ref 7), some (.int x1), some (.int x2)], [.int ((zg_i q2.2 7 9) - 2), .int 3, .int ((x1 + 2) + (8 * x2)), .ref 7, .int 2], [cb, 4, 5, pp], q2.2) rfl trivial ?_
      obtain ⟨q7, hc, h⟩ := zk_bind h
      refine hr.2.2.1 _ _ _ _ _ (d + 2) rfl (by omega) (c_g_Mdl_codeTree_s (l := l) (E := E) (d := d) (cb := cb) (pp := pp) hc) (fun v S hq => ?_)
      obtain ⟨rfl, rfl⟩ := hq
      clear hc
      refine hr.1 1 True _ _ (46, [some (.ref 7), some (.int x1), some (.int x2)], [.int (2 + q7.1)], [cb, 4, 5, pp], q7.2) rfl trivial ?_
      exact hr.2.2.2 _ _ _ rfl trivial ⟨(congrArg (fun x => some (Value.int x.1)) (Option.some.inj h)), (congrArg (fun x => (([cb, 4, 5, pp], x.2) : zx_S)) (Option.some.inj h))⟩
  clear h
  have h := hj
  clear hj
  refine hr.2.1 _ (10 ≤ zg_i D 7 9) _ _ rfl (fun c11 => ?_) (fun c11 => ?_)
  · replace h := zk_t h c11
    refine hr.1 1 True _ _ (19, [some (.ref 7), some (.int x1), some (.int x2)], [.int 1, .int x1, .ref 5], [cb, 4, 5, pp], D) rfl trivial ?_
    replace h := Option.some.inj h
    subst h
    exact J19 trivial
  · replace h := zk_f h c11
    refine hr.1 2 True _ _ (19, [some (.ref 7), some (.int x1), some (.int x2)], [.int 0, .int x1, .ref 5], [cb, 4, 5, pp], D) rfl trivial ?_
    replace h := Option.some.inj h
    subst h
    exact J19 trivial
set_option maxRecDepth 100000 in
set_option maxHeartbeats 4000000 in
theorem c_g_Src_codeEvenBit {l : Launch} {E : zx_E} {d : Nat} {cb ln pp : Nat} {x1 : Int32} {D : zx_D} {q : Int32 × zx_D} (h : g_Src_codeEvenBit x1 D = some q) : zx_MC l E 47 (d + 1) [.ref 5, .int x1] ([cb, 4, ln, pp], D) (fun v S => v = some (.int q.1) ∧ S = ([cb, 4, ln, pp], q.2)) := by
  refine zx_ofC (K := ck_Src_codeEvenBit) rfl (by decide +kernel) rfl ok_Src_codeEvenBit (Nat.le_of_ble_eq_true rfl) (fun Zp hr => ?_)
  show Zp (0, [some (.ref 5), some (.int x1), none], [], [cb, 4, ln, pp], D)
  rw [g_Src_codeEvenBit] at h
  refine hr.1 1 True _ _ (1, [some (.ref 5), some (.int x1), none], [.ref 5], [cb, 4, ln, pp], D) rfl trivial ?_
  obtain ⟨q1, hc, h⟩ := zk_bind h
  refine hr.2.2.1 _ _ _ _ _ (d) rfl (by omega) (c_g_Src_shift (l := l) (E := E) (d := d) (cb := cb) (ln := ln) (pp := pp) hc) (fun v S hq => ?_)
  obtain ⟨rfl, rfl⟩ := hq
  clear hc
  refine hr.1 2 True _ _ (8, [some (.ref 5), some (.int x1), none], [.int (zg_i q1 5 2)], [cb, 4, ln, pp], q1) rfl trivial ?_
  refine hr.2.1 _ (zg_i q1 5 2 = 0) _ _ rfl (fun c8 => ?_) (fun c8 => ?_)
  · replace h := zk_t h c8
    refine hr.1 8 True _ _ (27, [some (.ref 5), some (.int x1), none], [.int (zg_i q1 5 7)], [cb, 4, ln, pp], zp_l q1 5 1 (zo_lushr (zg_l q1 5 1) 1)) rfl trivial ?_
    obtain ⟨q2, hj, h⟩ := zk_bind h
    have J47 : ∀ (_ : True), Zp (47, [some (.ref 5), some (.int x1), none], [.int q2], [cb, 4, ln, pp], zp_l q1 5 1 (zo_lushr (zg_l q1 5 1) 1)) := by
      intro _
      refine hr.1 3 True _ _ (50, [some (.ref 5), some (.int x1), some (.int q2)], [.int 1, .int q2], [cb, 4, ln, pp], zp_l q1 5 1 (zo_lushr (zg_l q1 5 1) 1)) rfl trivial ?_
      obtain ⟨q3, hj, h⟩ := zk_bind h
      have J66 : ∀ (_ : True), Zp (66, [some (.ref 5), some (.int x1), some (.int q2)], [], [cb, 4, ln, pp], q3) := by
        intro _
        refine hr.1 3 True _ _ (71, [some (.ref 5), some (.int x1), some (.int q2)], [.int (zg_i q3 5 7), .ref 5], [cb, 4, ln, pp], q3) rfl trivial ?_
        refine hr.2.1 _ (¬ zg_i q3 5 7 = 0) _ _ rfl (fun c71 => ?_) (fun c71 => ?_)
        · replace h := zk_t h c71
          refine hr.1 4 True _ _ (95, [some (.ref 5), some (.int x1), some (.int q2)], [.ref 5], [cb, 4, ln, pp], zp_i q3 5 7 1) rfl ⟨trivial, (Or.inr rfl)⟩ ?_
          obtain ⟨q4, hc, h⟩ := zk_bind h
          refine hr.2.2.1 _ _ _ _ _ (d) rfl (by omega) (c_g_Src_keep (l := l) (E := E) (d := d) (cb := cb) (sd := 4) (ln := ln) (pp := pp) hc) (fun v S hq => ?_)
          obtain ⟨rfl, rfl⟩ := hq
          clear hc
          refine hr.1 1 True _ _ (99, [some (.ref 5), some (.int x1), some (.int q2)], [.int q2], [cb, 4, ln, pp], q4) rfl trivial ?_
          exact hr.2.2.2 _ _ _ rfl trivial ⟨(congrArg (fun x => some (Value.int x.1)) (Option.some.inj h)), (congrArg (fun x => (([cb, 4, ln, pp], x.2) : zx_S)) (Option.some.inj h))⟩
        · replace h := zk_f h c71
          refine hr.1 4 True _ _ (82, [some (.ref 5), some (.int x1), some (.int q2)], [.long (zg_l q3 5 1), .long (zg_l q3 5 6), .ref 5], [cb, 4, ln, pp], q3) rfl trivial ?_
          refine hr.2.1 _ (zg_l q3 5 6 < zg_l q3 5 1) _ _ rfl (fun c82 => ?_) (fun c82 => ?_)
          · replace h := zk_t h c82
            refine hr.1 3 True _ _ (95, [some (.ref 5), some (.int x1), some (.int q2)], [.ref 5], [cb, 4, ln, pp], zp_i q3 5 7 0) rfl ⟨trivial, (Or.inl rfl)⟩ ?_
            obtain ⟨q5, hc, h⟩ := zk_bind h
            refine hr.2.2.1 _ _ _ _ _ (d) rfl (by omega) (c_g_Src_keep (l := l) (E := E) (d := d) (cb := cb) (sd := 4) (ln := ln) (pp := pp) hc) (fun v S hq => ?_)
            obtain ⟨rfl, rfl⟩ := hq
            clear hc
            refine hr.1 1 True _ _ (99, [some (.ref 5), some (.int x1), some (.int q2)], [.int q2], [cb, 4, ln, pp], q5) rfl trivial ?_
            exact hr.2.2.2 _ _ _ rfl trivial ⟨(congrArg (fun x => some (Value.int x.1)) (Option.some.inj h)), (congrArg (fun x => (([cb, 4, ln, pp], x.2) : zx_S)) (Option.some.inj h))⟩
          · replace h := zk_f h c82
            refine hr.1 4 True _ _ (95, [some (.ref 5), some (.int x1), some (.int q2)], [.ref 5], [cb, 4, ln, pp], zp_i q3 5 7 1) rfl ⟨trivial, (Or.inr rfl)⟩ ?_
            obtain ⟨q6, hc, h⟩ := zk_bind h
            refine hr.2.2.1 _ _ _ _ _ (d) rfl (by omega) (c_g_Src_keep (l := l) (E := E) (d := d) (cb := cb) (sd := 4) (ln := ln) (pp := pp) hc) (fun v S hq => ?_)
            obtain ⟨rfl, rfl⟩ := hq
            clear hc
            refine hr.1 1 True _ _ (99, [some (.ref 5), some (.int x1), some (.int q2)], [.int q2], [cb, 4, ln, pp], q6) rfl trivial ?_
            exact hr.2.2.2 _ _ _ rfl trivial ⟨(congrArg (fun x => some (Value.int x.1)) (Option.some.inj h)), (congrArg (fun x => (([cb, 4, ln, pp], x.2) : zx_S)) (Option.some.inj h))⟩
      clear h
      have h := hj
      clear hj
      refine hr.2.1 _ (¬ q2 = 1) _ _ rfl (fun c50 => ?_) (fun c50 => ?_)
      · replace h := zk_t h c50
        replace h := Option.some.inj h
        subst h
        exact J66 trivial
      · replace h := zk_f h c50
        refine hr.1 7 True _ _ (66, [some (.ref 5), some (.int x1), some (.int q2)], [], [cb, 4, ln, pp], zp_l (zp_l q1 5 1 (zo_lushr (zg_l q1 5 1) 1)) 5 6 ((zg_l q1 5 6) - (zo_lushr (zg_l q1 5 1) 1))) rfl trivial ?_
        replace h := Option.some.inj h
        subst h
        exact J66 trivial
    clear h
    have h := hj
    clear hj
    refine hr.2.1 _ (¬ zg_i q1 5 7 = 0) _ _ rfl (fun c27 => ?_) (fun c27 => ?_)
    · replace h := zk_t h c27
      refine hr.1 2 True _ _ (47, [some (.ref 5), some (.int x1), none], [.int 1], [cb, 4, ln, pp], zp_l q1 5 1 (zo_lushr (zg_l q1 5 1) 1)) rfl trivial ?_
      replace h := Option.some.inj h
      subst h
      exact J47 trivial
    · replace h := zk_f h c27
      refine hr.1 4 True _ _ (38, [some (.ref 5), some (.int x1), none], [.long (zo_lushr (zg_l q1 5 1) 1), .long (zg_l q1 5 6)], [cb, 4, ln, pp], zp_l q1 5 1 (zo_lushr (zg_l q1 5 1) 1)) rfl trivial ?_
      refine hr.2.1 _ (zg_l q1 5 6 < zo_lushr (zg_l q1 5 1) 1) _ _ rfl (fun c38 => ?_) (fun c38 => ?_)
      · replace h := zk_t h c38
        refine hr.1 1 True _ _ (47, [some (.ref 5), some (.int x1), none], [.int 0], [cb, 4, ln, pp], zp_l q1 5 1 (zo_lushr (zg_l q1 5 1) 1)) rfl trivial ?_
        replace h := Option.some.inj h
        subst h
        exact J47 trivial
      · replace h := zk_f h c38
        refine hr.1 2 True _ _ (47, [some (.ref 5), some (.int x1), none], [.int 1], [cb, 4, ln, pp], zp_l q1 5 1 (zo_lushr (zg_l q1 5 1) 1)) rfl trivial ?_
        replace h := Option.some.inj h
        subst h
        exact J47 trivial
  · replace h := zk_f h c8
    refine hr.1 1 True _ _ (12, [some (.ref 5), some (.int x1), none], [.int 0], [cb, 4, ln, pp], q1) rfl trivial ?_
    exact hr.2.2.2 _ _ _ rfl trivial ⟨(congrArg (fun x => some (Value.int x.1)) (Option.some.inj h)), (congrArg (fun x => (([cb, 4, ln, pp], x.2) : zx_S)) (Option.some.inj h))⟩
set_option maxRecDepth 100000 in
set_option maxHeartbeats 4000000 in
theorem c_g_Mdl_codeTreeBackwards_s {l : Launch} {E : zx_E} {d : Nat} {cb pp : Nat} {x1 : Int32} {x2 : Int32} {x3 : Int32} {D : zx_D} {q : Int32 × zx_D} (h : g_Mdl_codeTreeBackwards_s x1 x2 x3 D = some q) : zx_MC l E 68 (d + 2) [.ref 7, .int x1, .int x2, .int x3] ([cb, 4, 5, pp], D) (fun v S => v = some (.int q.1) ∧ S = ([cb, 4, 5, pp], q.2)) := by
  refine zx_ofC (K := ck_Mdl_codeTreeBackwards) rfl (by decide +kernel) rfl ok_Mdl_codeTreeBackwards (Nat.le_of_ble_eq_true rfl) (fun Zp hr => ?_)
  show Zp (0, [some (.ref 7), some (.int x1), some (.int x2), some (.int x3), none, none, none, none], [], [cb, 4, 5, pp], D)
  have loop9 : ∀ (x1 : Int32) (x2 : Int32) (x3 : Int32) (k : Nat) (x4 : Int32) (x5 : Int32) (x6 : Int32) (D : zx_D) (o7 : Option Value) (q : Int32 × zx_D), g_Mdl_codeTreeBackwards_s_9 x1 x2 x3 k x4 x5 x6 D = some q → (∀ (e4 : Int32) (e6 : Int32) (o7 : Option Value), Zp (59, [some (.ref 7), some (.int x1), some (.int x2), some (.int x3), some (.int e4), some (.int q.1), some (.int e6), o7], [], [cb, 4, 5, pp], q.2)) → Zp (9, [some (.ref 7), some (.int x1), some (.int x2), some (.int x3), some (.int x4), some (.int x5), some (.int x6), o7], [], [cb, 4, 5, pp], D) := by
    intro x1 x2 x3 k
    induction k with
    | zero => intro x4 x5 x6 D o7 q h hx; exact (zk_no h).elim
    | succ k ih =>
      intro x4 x5 x6 D o7 q h hx
      rw [g_Mdl_codeTreeBackwards_s_9] at h
      refine hr.1 2 True _ _ (12, [some (.ref 7), some (.int x1), some (.int x2), some (.int x3), some (.int x4), some (.int x5), some (.int x6), o7], [.int x2, .int x6], [cb, 4, 5, pp], D) rfl trivial ?_
      refine hr.2.1 _ (x2 ≤ x6) _ _ rfl (fun c12 => ?_) (fun c12 => ?_)
      · replace h := zk_t h c12
        replace h := Option.some.inj h
        subst h
        exact hx x4 x6 o7
      · replace h := zk_f h c12
        refine hr.1 10 True _ _ (29, [some (.ref 7), some (.int x1), some (.int x2), some (.int x3), some (.int x4), some (.int x5), some (.int x6), o7], [.int ((zo_ushr x3 x6) &&& 1), .int (x1 + x4), .ref 5], [cb, 4, 5, pp], D) rfl trivial ?_
        obtain ⟨q1, hc, h⟩ := zk_bind h
        refine hr.2.2.1 _ _ _ _ _ (d + 1) rfl (by omega) (c_g_Src_codeBit (l := l) (E := E) (d := d) (cb := cb) (ln := 5) (pp := pp) hc) (fun v S hq => ?_)
        obtain ⟨rfl, rfl⟩ := hq
        clear hc
        refine hr.1 15 True _ _ (9, [some (.ref 7), some (.int x1), some (.int x2), some (.int x3), some (.int ((2 * x4) + q1.1)), some (.int (x5 + (zo_shl q1.1 x6))), some (.int (x6 + 1)), some (.int q1.1)], [], [cb, 4, 5, pp], q1.2) rfl trivial ?_
        exact ih ((2 * x4) + q1.1) (x5 + (zo_shl q1.1 x6)) (x6 + 1) q1.2 _ _ h hx
  rw [g_Mdl_codeTreeBackwards_s] at h
  refine hr.1 6 True _ _ (9, [some (.ref 7), some (.int x1), some (.int x2), some (.int x3), some (.int 1), some (.int 0), some (.int 0), none], [], [cb, 4, 5, pp], D) rfl trivial ?_
  obtain ⟨q2, hc, h⟩ := zk_bind h
  refine loop9 x1 x2 x3 10000 1 0 0 D none q2 hc (fun e4 e6 o7 => ?_)
  clear hc
  refine hr.1 1 True _ _ (61, [some (.ref 7), some (.int x1), some (.int x2), some (.int x3), some (.int e4), some (.int q2.1), some (.int e6), o7], [.int q2.1], [cb, 4, 5, pp], q2.2) rfl trivial ?_
  exact hr.2.2.2 _ _ _ rfl trivial ⟨(congrArg (fun x => some (Value.int x.1)) (Option.some.inj h)), (congrArg (fun x => (([cb, 4, 5, pp], x.2) : zx_S)) (Option.some.inj h))⟩
set_option maxRecDepth 100000 in
set_option maxHeartbeats 4000000 in
theorem c_g_Mdl_codeDistance_s {l : Launch} {E : zx_E} {d : Nat} {cb pp : Nat} {D : zx_D} {q : Int64 × zx_D} (h : g_Mdl_codeDistance_s D = some q) : zx_MC l E 65 (d + 3) [.ref 7] ([cb, 4, 5, pp], D) (fun v S => v = some (.long q.1) ∧ S = ([cb, 4, 5, pp], q.2)) := by
  refine zx_ofC (K := ck_Mdl_codeDistance) rfl (by decide +kernel) rfl ok_Mdl_codeDistance (Nat.le_of_ble_eq_true rfl) (fun Zp hr => ?_)
  show Zp (0, [some (.ref 7), none, none, none, none, none, none, none, none, none], [], [cb, 4, 5, pp], D)
  have loop106 : ∀ (x3 : Int64) (x5 : Int64) (k : Nat) (x7 : Int64) (x9 : Int32) (D : zx_D) (x1 : Int32) (x2 : Int32) (q : Int64 × zx_D), g_Mdl_codeDistance_s_106 x3 x5 k x7 x9 D = some q → (∀ (e9 : Int32), Zp (143, [some (.ref 7), some (.int x1), some (.int x2), some (.long x3), none, some (.long x5), none, some (.long q.1), none, some (.int e9)], [], [cb, 4, 5, pp], q.2)) → Zp (106, [some (.ref 7), some (.int x1), some (.int x2), some (.long x3), none, some (.long x5), none, some (.long x7), none, some (.int x9)], [], [cb, 4, 5, pp], D) := by
    intro x3 x5 k
    induction k with
    | zero => intro x7 x9 D x1 x2 q h hx; exact (zk_no h).elim
    | succ k ih =>
      intro x7 x9 D x1 x2 q h hx
      rw [g_Mdl_codeDistance_s_106] at h
      refine hr.1 2 True _ _ (109, [some (.ref 7), some (.int x1), some (.int x2), some (.long x3), none, some (.long x5), none, some (.long x7), none, some (.int x9)], [.int 4, .int x9], [cb, 4, 5, pp], D) rfl trivial ?_
      refine hr.2.1 _ (x9 < 4) _ _ rfl (fun c109 => ?_) (fun c109 => ?_)
      · replace h := zk_t h c109
        replace h := Option.some.inj h
        subst h
        exact hx x9
      · replace h := zk_f h c109
        refine hr.1 11 True _ _ (130, [some (.ref 7), some (.int x1), some (.int x2), some (.long x3), none, some (.long x5), none, some (.long x7), none, some (.int x9)], [.int ((((zo_lushr x5 x9)).toInt32) &&& 1), .ref 5, .long (2 * x7)], [cb, 4, 5, pp], D) rfl trivial ?_
        obtain ⟨q3, hc, h⟩ := zk_bind h
        refine hr.2.2.1 _ _ _ _ _ (d + 2) rfl (by omega) (c_g_Src_codeEvenBit (l := l) (E := E) (d := d + 1) (cb := cb) (ln := 5) (pp := pp) hc) (fun v S hq => ?_)
        obtain ⟨rfl, rfl⟩ := hq
        clear hc
        refine hr.1 5 True _ _ (106, [some (.ref 7), some (.int x1), some (.int x2), some (.long x3), none, some (.long x5), none, some (.long ((2 * x7) + ((q3.1).toInt64))), none, some (.int (x9 + (-1)))], [], [cb, 4, 5, pp], q3.2) rfl trivial ?_
        exact ih ((2 * x7) + ((q3.1).toInt64)) (x9 + (-1)) q3.2 _ _ _ h hx
  rw [g_Mdl_codeDistance_s] at h
  refine hr.1 14 True _ _ (24, [some (.ref 7), none, none, none, none, none, none, none, none, none], [.long (zg_l D 7 10), .int 6, .int (1460 + (64 * (if 3 < (zg_i D 7 9) - 2 then 3 else (zg_i D 7 9) - 2))), .ref 7], [cb, 4, 5, pp], D) rfl trivial ?_
  obtain ⟨q1, hc, h⟩ := zk_bind h
  refine hr.2.2.1 _ _ _ _ _ (d + 2) rfl (by omega) (c_g_Mdl_slotOf (l := l) (E := E) (d := d) (cb := cb) (sd := 4) (ln := 5) (pp := pp) hc) (fun v S hq => ?_)
  obtain ⟨rfl, rfl⟩ := hq
  clear hc
  obtain ⟨q2, hc, h⟩ := zk_bind h
  refine hr.2.2.1 _ _ _ _ _ (d + 2) rfl (by omega) (c_g_Mdl_codeTree_s (l := l) (E := E) (d := d) (cb := cb) (pp := pp) hc) (fun v S hq => ?_)
  obtain ⟨rfl, rfl⟩ := hq
  clear hc
  refine hr.1 3 True _ _ (33, [some (.ref 7), some (.int q2.1), none, none, none, none, none, none, none, none], [.int 4, .int q2.1], [cb, 4, 5, pp], q2.2) rfl trivial ?_
  refine hr.2.1 _ (4 ≤ q2.1) _ _ rfl (fun c33 => ?_) (fun c33 => ?_)
  · replace h := zk_t h c33
    refine hr.1 24 True _ _ (71, [some (.ref 7), some (.int q2.1), some (.int ((q2.1 / 2) - 1)), some (.long (zo_lshl (2 + (((zo_rem q2.1 2)).toInt64)) ((q2.1 / 2) - 1))), none, some (.long (((zg_l q2.2 7 10) - 1) - (zo_lshl (2 + (((zo_rem q2.1 2)).toInt64)) ((q2.1 / 2) - 1)))), none, none, none, none], [.int 14, .int q2.1], [cb, 4, 5, pp], q2.2) rfl trivial ?_
    refine hr.2.1 _ (14 ≤ q2.1) _ _ rfl (fun c71 => ?_) (fun c71 => ?_)
    · replace h := zk_t h c71
      refine hr.1 6 True _ _ (106, [some (.ref 7), some (.int q2.1), some (.int ((q2.1 / 2) - 1)), some (.long (zo_lshl (2 + (((zo_rem q2.1 2)).toInt64)) ((q2.1 / 2) - 1))), none, some (.long (((zg_l q2.2 7 10) - 1) - (zo_lshl (2 + (((zo_rem q2.1 2)).toInt64)) ((q2.1 / 2) - 1)))), none, some (.long 0), none, some (.int (((q2.1 / 2) - 1) - 1))], [], [cb, 4, 5, pp], q2.2) rfl trivial ?_
      obtain ⟨q4, hc, h⟩ := zk_bind h
      refine loop106 (zo_lshl (2 + (((zo_rem q2.1 2)).toInt64)) ((q2.1 / 2) - 1)) (((zg_l q2.2 7 10) - 1) - (zo_lshl (2 + (((zo_rem q2.1 2)).toInt64)) ((q2.1 / 2) - 1))) 10000 0 (((q2.1 / 2) - 1) - 1) q2.2 q2.1 ((q2.1 / 2) - 1) q4 hc (fun e9 => ?_)
      clear hc
      refine hr.1 12 True _ _ (161, [some (.ref 7), some (.int q2.1), some (.int ((q2.1 / 2) - 1)), some (.long (zo_lshl (2 + (((zo_rem q2.1 2)).toInt64)) ((q2.1 / 2) - 1))), none, some (.long (((zg_l q2.2 7 10) - 1) - (zo_lshl (2 + (((zo_rem q2.1 2)).toInt64)) ((q2.1 / 2) - 1)))), none, some (.long q4.1), none, some (.int e9)], [.int (((((zg_l q2.2 7 10) - 1) - (zo_lshl (2 + (((zo_rem q2.1 2)).toInt64)) ((q2.1 / 2) - 1)))).toInt32), .int 4, .int 2036, .ref 7, .long (((zo_lshl (2 + (((zo_rem q2.1 2)).toInt64)) ((q2.1 / 2) - 1)) + 1) + (16 * q4.1))], [cb, 4, 5, pp], q4.2) rfl trivial ?_
      obtain ⟨q5, hc, h⟩ := zk_bind h
      refine hr.2.2.1 _ _ _ _ _ (d + 2) rfl (by omega) (c_g_Mdl_codeTreeBackwards_s (l := l) (E := E) (d := d) (cb := cb) (pp := pp) hc) (fun v S hq => ?_)
      obtain ⟨rfl, rfl⟩ := hq
      clear hc
      refine hr.1 2 True _ _ (166, [some (.ref 7), some (.int q2.1), some (.int ((q2.1 / 2) - 1)), some (.long (zo_lshl (2 + (((zo_rem q2.1 2)).toInt64)) ((q2.1 / 2) - 1))), none, some (.long (((zg_l q2.2 7 10) - 1) - (zo_lshl (2 + (((zo_rem q2.1 2)).toInt64)) ((q2.1 / 2) - 1)))), none, some (.long q4.1), none, some (.int e9)], [.long ((((zo_lshl (2 + (((zo_rem q2.1 2)).toInt64)) ((q2.1 / 2) - 1)) + 1) + (16 * q4.1)) + ((q5.1).toInt64))], [cb, 4, 5, pp], q5.2) rfl trivial ?_
      exact hr.2.2.2 _ _ _ rfl trivial ⟨(congrArg (fun x => some (Value.long x.1)) (Option.some.inj h)), (congrArg (fun x => (([cb, 4, 5, pp], x.2) : zx_S)) (Option.some.inj h))⟩
    · replace h := zk_f h c71
      refine hr.1 14 True _ _ (92, [some (.ref 7), some (.int q2.1), some (.int ((q2.1 / 2) - 1)), some (.long (zo_lshl (2 + (((zo_rem q2.1 2)).toInt64)) ((q2.1 / 2) - 1))), none, some (.long (((zg_l q2.2 7 10) - 1) - (zo_lshl (2 + (((zo_rem q2.1 2)).toInt64)) ((q2.1 / 2) - 1)))), none, none, none, none], [.int (((((zg_l q2.2 7 10) - 1) - (zo_lshl (2 + (((zo_rem q2.1 2)).toInt64)) ((q2.1 / 2) - 1)))).toInt32), .int ((q2.1 / 2) - 1), .int (1716 + (32 * (q2.1 - 4))), .ref 7, .long ((zo_lshl (2 + (((zo_rem q2.1 2)).toInt64)) ((q2.1 / 2) - 1)) + 1)], [cb, 4, 5, pp], q2.2) rfl trivial ?_
      obtain ⟨q6, hc, h⟩ := zk_bind h
      refine hr.2.2.1 _ _ _ _ _ (d + 2) rfl (by omega) (c_g_Mdl_codeTreeBackwards_s (l := l) (E := E) (d := d) (cb := cb) (pp := pp) hc) (fun v S hq => ?_)
      obtain ⟨rfl, rfl⟩ := hq
      clear hc
      refine hr.1 2 True _ _ (97, [some (.ref 7), some (.int q2.1), some (.int ((q2.1 / 2) - 1)), some (.long (zo_lshl (2 + (((zo_rem q2.1 2)).toInt64)) ((q2.1 / 2) - 1))), none, some (.long (((zg_l q2.2 7 10) - 1) - (zo_lshl (2 + (((zo_rem q2.1 2)).toInt64)) ((q2.1 / 2) - 1)))), none, none, none, none], [.long (((zo_lshl (2 + (((zo_rem q2.1 2)).toInt64)) ((q2.1 / 2) - 1)) + 1) + ((q6.1).toInt64))], [cb, 4, 5, pp], q6.2) rfl trivial ?_
      exact hr.2.2.2 _ _ _ rfl trivial ⟨(congrArg (fun x => some (Value.long x.1)) (Option.some.inj h)), (congrArg (fun x => (([cb, 4, 5, pp], x.2) : zx_S)) (Option.some.inj h))⟩
  · replace h := zk_f h c33
    refine hr.1 4 True _ _ (40, [some (.ref 7), some (.int q2.1), none, none, none, none, none, none, none, none], [.long (((q2.1 + 1)).toInt64)], [cb, 4, 5, pp], q2.2) rfl trivial ?_
    exact hr.2.2.2 _ _ _ rfl trivial ⟨(congrArg (fun x => some (Value.long x.1)) (Option.some.inj h)), (congrArg (fun x => (([cb, 4, 5, pp], x.2) : zx_S)) (Option.some.inj h))⟩
set_option maxRecDepth 100000 in
set_option maxHeartbeats 4000000 in
theorem c_g_Mdl_codeLiteral_s {l : Launch} {E : zx_E} {d : Nat} {cb pp : Nat} {x1 : Int32} {x2 : Int32} {D : zx_D} {q : Int32 × zx_D} (h : g_Mdl_codeLiteral_s x1 x2 D = some q) : zx_MC l E 63 (d + 2) [.ref 7, .int x1, .int x2] ([cb, 4, 5, pp], D) (fun v S => v = some (.int q.1) ∧ S = ([cb, 4, 5, pp], q.2)) := by
  refine zx_ofC (K := ck_Mdl_codeLiteral) rfl (by decide +kernel) rfl ok_Mdl_codeLiteral (Nat.le_of_ble_eq_true rfl) (fun Zp hr => ?_)
  show Zp (0, [some (.ref 7), some (.int x1), some (.int x2), none, none, none, none, none, none], [], [cb, 4, 5, pp], D)
  have loop22 : ∀ (x1 : Int32) (x2 : Int32) (k : Nat) (x3 : Int32) (x4 : Int32) (x5 : Int32) (D : zx_D) (o6 : Option Value) (o7 : Option Value) (o8 : Option Value) (q : Int32 × zx_D), g_Mdl_codeLiteral_s_22 x1 x2 k x3 x4 x5 D = some q → (∀ (e3 : Int32) (e5 : Int32) (o6 : Option Value) (o7 : Option Value) (o8 : Option Value), Zp (110, [some (.ref 7), some (.int x1), some (.int x2), some (.int e3), some (.int q.1), some (.int e5), o6, o7, o8], [], [cb, 4, 5, pp], q.2)) → Zp (22, [some (.ref 7), some (.int x1), some (.int x2), some (.int x3), some (.int x4), some (.int x5), o6, o7, o8], [], [cb, 4, 5, pp], D) := by
    intro x1 x2 k
    induction k with
    | zero => intro x3 x4 x5 D o6 o7 o8 q h hx; exact (zk_no h).elim
    | succ k ih =>
      intro x3 x4 x5 D o6 o7 o8 q h hx
      rw [g_Mdl_codeLiteral_s_22] at h
      refine hr.1 1 True _ _ (24, [some (.ref 7), some (.int x1), some (.int x2), some (.int x3), some (.int x4), some (.int x5), o6, o7, o8], [.int x5], [cb, 4, 5, pp], D) rfl trivial ?_
      refine hr.2.1 _ (x5 < 0) _ _ rfl (fun c24 => ?_) (fun c24 => ?_)
      · replace h := zk_t h c24
        replace h := Option.some.inj h
        subst h
        exact hx x3 x5 o6 o7 o8
      · replace h := zk_f h c24
        refine hr.1 7 True _ _ (36, [some (.ref 7), some (.int x1), some (.int x2), some (.int x3), some (.int x4), some (.int x5), some (.int ((zo_ushr x2 x5) &&& 1)), o7, o8], [.int x3], [cb, 4, 5, pp], D) rfl trivial ?_
        obtain ⟨q2, hj, h⟩ := zk_bind h
        have J47 : ∀ (_ : True), Zp (47, [some (.ref 7), some (.int x1), some (.int x2), some (.int x3), some (.int x4), some (.int x5), some (.int ((zo_ushr x2 x5) &&& 1)), o7, o8], [.int q2], [cb, 4, 5, pp], D) := by
          intro _
          refine hr.1 16 True _ _ (73, [some (.ref 7), some (.int x1), some (.int x2), some (.int x3), some (.int x4), some (.int x5), some (.int ((zo_ushr x2 x5) &&& 1)), some (.int q2), o8], [.int ((zo_ushr (zg_i D 7 8) x5) &&& 1), .int ((x1 + (q2 * 256)) + x4), .ref 5], [cb, 4, 5, pp], D) rfl trivial ?_
          obtain ⟨q3, hc, h⟩ := zk_bind h
          refine hr.2.2.1 _ _ _ _ _ (d + 1) rfl (by omega) (c_g_Src_codeBit (l := l) (E := E) (d := d) (cb := cb) (ln := 5) (pp := pp) hc) (fun v S hq => ?_)
          obtain ⟨rfl, rfl⟩ := hq
          clear hc
          refine hr.1 2 True _ _ (79, [some (.ref 7), some (.int x1), some (.int x2), some (.int x3), some (.int x4), some (.int x5), some (.int ((zo_ushr x2 x5) &&& 1)), some (.int q2), some (.int q3.1)], [.int x3], [cb, 4, 5, pp], q3.2) rfl trivial ?_
          refine hr.2.1 _ (x3 = 0) _ _ rfl (fun c79 => ?_) (fun c79 => ?_)
          · replace h := zk_t h c79
            refine hr.1 10 True _ _ (22, [some (.ref 7), some (.int x1), some (.int x2), some (.int 0), some (.int ((2 * x4) + q3.1)), some (.int (x5 + (-1))), some (.int ((zo_ushr x2 x5) &&& 1)), some (.int q2), some (.int q3.1)], [], [cb, 4, 5, pp], q3.2) rfl trivial ?_
            exact ih 0 ((2 * x4) + q3.1) (x5 + (-1)) q3.2 _ _ _ _ h hx
          · replace h := zk_f h c79
            refine hr.1 2 True _ _ (86, [some (.ref 7), some (.int x1), some (.int x2), some (.int x3), some (.int x4), some (.int x5), some (.int ((zo_ushr x2 x5) &&& 1)), some (.int q2), some (.int q3.1)], [.int ((zo_ushr x2 x5) &&& 1), .int q3.1], [cb, 4, 5, pp], q3.2) rfl trivial ?_
            refine hr.2.1 _ (¬ q3.1 = (zo_ushr x2 x5) &&& 1) _ _ rfl (fun c86 => ?_) (fun c86 => ?_)
            · replace h := zk_t h c86
              refine hr.1 10 True _ _ (22, [some (.ref 7), some (.int x1), some (.int x2), some (.int 0), some (.int ((2 * x4) + q3.1)), some (.int (x5 + (-1))), some (.int ((zo_ushr x2 x5) &&& 1)), some (.int q2), some (.int q3.1)], [], [cb, 4, 5, pp], q3.2) rfl trivial ?_
              exact ih 0 ((2 * x4) + q3.1) (x5 + (-1)) q3.2 _ _ _ _ h hx
            · replace h := zk_f h c86
              refine hr.1 11 True _ _ (22, [some (.ref 7), some (.int x1), some (.int x2), some (.int 1), some (.int ((2 * x4) + q3.1)), some (.int (x5 + (-1))), some (.int ((zo_ushr x2 x5) &&& 1)), some (.int q2), some (.int q3.1)], [], [cb, 4, 5, pp], q3.2) rfl trivial ?_
              exact ih 1 ((2 * x4) + q3.1) (x5 + (-1)) q3.2 _ _ _ _ h hx
        clear h
        have h := hj
        clear hj
        refine hr.2.1 _ (x3 = 0) _ _ rfl (fun c36 => ?_) (fun c36 => ?_)
        · replace h := zk_t h c36
          refine hr.1 1 True _ _ (47, [some (.ref 7), some (.int x1), some (.int x2), some (.int x3), some (.int x4), some (.int x5), some (.int ((zo_ushr x2 x5) &&& 1)), o7, o8], [.int 0], [cb, 4, 5, pp], D) rfl trivial ?_
          replace h := Option.some.inj h
          subst h
          exact J47 trivial
        · replace h := zk_f h c36
          refine hr.1 4 True _ _ (47, [some (.ref 7), some (.int x1), some (.int x2), some (.int x3), some (.int x4), some (.int x5), some (.int ((zo_ushr x2 x5) &&& 1)), o7, o8], [.int (1 + ((zo_ushr x2 x5) &&& 1))], [cb, 4, 5, pp], D) rfl trivial ?_
          replace h := Option.some.inj h
          subst h
          exact J47 trivial
  rw [g_Mdl_codeLiteral_s] at h
  refine hr.1 3 True _ _ (6, [some (.ref 7), some (.int x1), some (.int x2), none, none, none, none, none, none], [.int 7, .int (zg_i D 7 2)], [cb, 4, 5, pp], D) rfl trivial ?_
  obtain ⟨q1, hj, h⟩ := zk_bind h
  have J14 : ∀ (_ : True), Zp (14, [some (.ref 7), some (.int x1), some (.int x2), none, none, none, none, none, none], [.int q1], [cb, 4, 5, pp], D) := by
    intro _
    refine hr.1 5 True _ _ (22, [some (.ref 7), some (.int x1), some (.int x2), some (.int q1), some (.int 1), some (.int 7), none, none, none], [], [cb, 4, 5, pp], D) rfl trivial ?_
    obtain ⟨q4, hc, h⟩ := zk_bind h
    refine loop22 x1 x2 10000 q1 1 7 D none none none q4 hc (fun e3 e5 o6 o7 o8 => ?_)
    clear hc
    refine hr.1 3 True _ _ (116, [some (.ref 7), some (.int x1), some (.int x2), some (.int e3), some (.int q4.1), some (.int e5), o6, o7, o8], [.int (q4.1 - 256)], [cb, 4, 5, pp], q4.2) rfl trivial ?_
    exact hr.2.2.2 _ _ _ rfl trivial ⟨(congrArg (fun x => some (Value.int x.1)) (Option.some.inj h)), (congrArg (fun x => (([cb, 4, 5, pp], x.2) : zx_S)) (Option.some.inj h))⟩
  clear h
  have h := hj
  clear hj
  refine hr.2.1 _ (zg_i D 7 2 < 7) _ _ rfl (fun c6 => ?_) (fun c6 => ?_)
  · replace h := zk_t h c6
    refine hr.1 1 True _ _ (14, [some (.ref 7), some (.int x1), some (.int x2), none, none, none, none, none, none], [.int 0], [cb, 4, 5, pp], D) rfl trivial ?_
    replace h := Option.some.inj h
    subst h
    exact J14 trivial
  · replace h := zk_f h c6
    refine hr.1 2 True _ _ (14, [some (.ref 7), some (.int x1), some (.int x2), none, none, none, none, none, none], [.int 1], [cb, 4, 5, pp], D) rfl trivial ?_
    replace h := Option.some.inj h
    subst h
    exact J14 trivial
set_option maxRecDepth 100000 in
set_option maxHeartbeats 4000000 in
theorem c_g_Mdl_step_s {l : Launch} {E : zx_E} {d : Nat} {cb pp : Nat} {x1 : Int32} {x2 : Int32} {x3 : Int32} {D : zx_D} {q : zx_D} (h : g_Mdl_step_s x1 x2 x3 D = some q) : zx_MC l E 60 (d + 4) [.ref 7, .int x1, .int x2, .int x3] ([cb, 4, 5, pp], D) (fun v S => v = none ∧ S = ([cb, 4, 5, pp], q)) := by
  refine zx_ofC (K := ck_Mdl_step) rfl (by decide +kernel) rfl ok_Mdl_step (Nat.le_of_ble_eq_true rfl) (fun Zp hr => ?_)
  show Zp (0, [some (.ref 7), some (.int x1), some (.int x2), some (.int x3), none, none], [], [cb, 4, 5, pp], D)
  rw [g_Mdl_step_s] at h
  refine hr.1 12 True _ _ (16, [some (.ref 7), some (.int x1), some (.int x2), some (.int x3), some (.int (x1 &&& ((zo_shl 1 (zg_i D 7 5)) - 1))), none], [.int (x1 &&& ((zo_shl 1 (zg_i D 7 5)) - 1)), .ref 7, .ref 7], [cb, 4, 5, pp], D) rfl trivial ?_
  obtain ⟨q1, hc, h⟩ := zk_bind h
  refine hr.2.2.1 _ _ _ _ _ (d + 3) rfl (by omega) (c_g_Mdl_codeKind_s (l := l) (E := E) (d := d + 1) (cb := cb) (pp := pp) hc) (fun v S hq => ?_)
  obtain ⟨rfl, rfl⟩ := hq
  clear hc
  refine hr.1 4 True _ _ (27, [some (.ref 7), some (.int x1), some (.int x2), some (.int x3), some (.int (x1 &&& ((zo_shl 1 (zg_i D 7 5)) - 1))), none], [.int 1, .int q1.1], [cb, 4, 5, pp], zp_i q1.2 7 7 q1.1) rfl trivial ?_
  refine hr.2.1 _ (¬ q1.1 = 1) _ _ rfl (fun c27 => ?_) (fun c27 => ?_)
  · replace h := zk_t h c27
    refine hr.1 3 True _ _ (130, [some (.ref 7), some (.int x1), some (.int x2), some (.int x3), some (.int (x1 &&& ((zo_shl 1 (zg_i D 7 5)) - 1))), none], [.int 2, .int q1.1], [cb, 4, 5, pp], zp_i q1.2 7 7 q1.1) rfl trivial ?_
    refine hr.2.1 _ (¬ q1.1 = 2) _ _ rfl (fun c130 => ?_) (fun c130 => ?_)
    · replace h := zk_t h c130
      refine hr.1 3 True _ _ (191, [some (.ref 7), some (.int x1), some (.int x2), some (.int x3), some (.int (x1 &&& ((zo_shl 1 (zg_i D 7 5)) - 1))), none], [.int 3, .int q1.1], [cb, 4, 5, pp], zp_i q1.2 7 7 q1.1) rfl trivial ?_
      refine hr.2.1 _ (¬ q1.1 = 3) _ _ rfl (fun c191 => ?_) (fun c191 => ?_)
      · replace h := zk_t h c191
        obtain ⟨w2, h⟩ := zk_ck h
        refine hr.1 12 True _ _ (240, [some (.ref 7), some (.int x1), some (.int x2), some (.int x3), some (.int (x1 &&& ((zo_shl 1 (zg_i D 7 5)) - 1))), none], [.long (zg_l q1.2 8 (zn (q1.1 - 4))), .int (q1.1 - 4), .ref 7], [cb, 4, 5, pp], zp_i q1.2 7 7 q1.1) rfl ⟨trivial, (zk_vp w2)⟩ ?_
        obtain ⟨q2, hc, h⟩ := zk_bind h
        refine hr.2.2.1 _ _ _ _ _ (d + 3) rfl (by omega) (c_g_Mdl_bringForward (l := l) (E := E) (d := d + 3) (cb := cb) (sd := 4) (ln := 5) (pp := pp) hc) (fun v S hq => ?_)
        obtain ⟨rfl, rfl⟩ := hq
        clear hc
        refine hr.1 4 True _ _ (250, [some (.ref 7), some (.int x1), some (.int x2), some (.int x3), some (.int (x1 &&& ((zo_shl 1 (zg_i D 7 5)) - 1))), none], [.int (x1 &&& ((zo_shl 1 (zg_i D 7 5)) - 1)), .int 946, .ref 7, .ref 7], [cb, 4, 5, pp], q2) rfl trivial ?_
        obtain ⟨q3, hc, h⟩ := zk_bind h
        refine hr.2.2.1 _ _ _ _ _ (d + 3) rfl (by omega) (c_g_Mdl_codeLength_s (l := l) (E := E) (d := d) (cb := cb) (pp := pp) hc) (fun v S hq => ?_)
        obtain ⟨rfl, rfl⟩ := hq
        clear hc
        refine hr.1 5 True _ _ (263, [some (.ref 7), some (.int x1), some (.int x2), some (.int x3), some (.int (x1 &&& ((zo_shl 1 (zg_i D 7 5)) - 1))), none], [.int 7, .int (zg_i q3.2 7 2), .ref 7], [cb, 4, 5, pp], zp_i q3.2 7 9 q3.1) rfl trivial ?_
        refine hr.2.1 _ (7 ≤ zg_i q3.2 7 2) _ _ rfl (fun c263 => ?_) (fun c263 => ?_)
        · replace h := zk_t h c263
          refine hr.1 2 True _ _ (276, [some (.ref 7), some (.int x1), some (.int x2), some (.int x3), some (.int (x1 &&& ((zo_shl 1 (zg_i D 7 5)) - 1))), none], [], [cb, 4, 5, pp], zp_i (zp_i q3.2 7 9 q3.1) 7 2 11) rfl trivial ?_
          exact hr.2.2.2 _ _ _ rfl trivial ⟨rfl, (congrArg (fun x => (([cb, 4, 5, pp], x) : zx_S)) (Option.some.inj h))⟩
        · replace h := zk_f h c263
          refine hr.1 3 True _ _ (276, [some (.ref 7), some (.int x1), some (.int x2), some (.int x3), some (.int (x1 &&& ((zo_shl 1 (zg_i D 7 5)) - 1))), none], [], [cb, 4, 5, pp], zp_i (zp_i q3.2 7 9 q3.1) 7 2 8) rfl trivial ?_
          exact hr.2.2.2 _ _ _ rfl trivial ⟨rfl, (congrArg (fun x => (([cb, 4, 5, pp], x) : zx_S)) (Option.some.inj h))⟩
      · replace h := zk_f h c191
        refine hr.1 7 True _ _ (206, [some (.ref 7), some (.int x1), some (.int x2), some (.int x3), some (.int (x1 &&& ((zo_shl 1 (zg_i D 7 5)) - 1))), none], [.int 7, .int (zg_i q1.2 7 2), .ref 7], [cb, 4, 5, pp], zp_i (zp_i q1.2 7 7 q1.1) 7 9 1) rfl trivial ?_
        refine hr.2.1 _ (7 ≤ zg_i q1.2 7 2) _ _ rfl (fun c206 => ?_) (fun c206 => ?_)
        · replace h := zk_t h c206
          refine hr.1 3 True _ _ (276, [some (.ref 7), some (.int x1), some (.int x2), some (.int x3), some (.int (x1 &&& ((zo_shl 1 (zg_i D 7 5)) - 1))), none], [], [cb, 4, 5, pp], zp_i (zp_i (zp_i q1.2 7 7 q1.1) 7 9 1) 7 2 11) rfl trivial ?_
          exact hr.2.2.2 _ _ _ rfl trivial ⟨rfl, (congrArg (fun x => (([cb, 4, 5, pp], x) : zx_S)) (Option.some.inj h))⟩
        · replace h := zk_f h c206
          refine hr.1 4 True _ _ (276, [some (.ref 7), some (.int x1), some (.int x2), some (.int x3), some (.int (x1 &&& ((zo_shl 1 (zg_i D 7 5)) - 1))), none], [], [cb, 4, 5, pp], zp_i (zp_i (zp_i q1.2 7 7 q1.1) 7 9 1) 7 2 9) rfl trivial ?_
          exact hr.2.2.2 _ _ _ rfl trivial ⟨rfl, (congrArg (fun x => (([cb, 4, 5, pp], x) : zx_S)) (Option.some.inj h))⟩
    · replace h := zk_f h c130
      refine hr.1 4 True _ _ (140, [some (.ref 7), some (.int x1), some (.int x2), some (.int x3), some (.int (x1 &&& ((zo_shl 1 (zg_i D 7 5)) - 1))), none], [.int (x1 &&& ((zo_shl 1 (zg_i D 7 5)) - 1)), .int 432, .ref 7, .ref 7], [cb, 4, 5, pp], zp_i q1.2 7 7 q1.1) rfl trivial ?_
      obtain ⟨q4, hc, h⟩ := zk_bind h
      refine hr.2.2.1 _ _ _ _ _ (d + 3) rfl (by omega) (c_g_Mdl_codeLength_s (l := l) (E := E) (d := d) (cb := cb) (pp := pp) hc) (fun v S hq => ?_)
      obtain ⟨rfl, rfl⟩ := hq
      clear hc
      refine hr.1 3 True _ _ (148, [some (.ref 7), some (.int x1), some (.int x2), some (.int x3), some (.int (x1 &&& ((zo_shl 1 (zg_i D 7 5)) - 1))), none], [.ref 7, .ref 7], [cb, 4, 5, pp], zp_i q4.2 7 9 q4.1) rfl trivial ?_
      obtain ⟨q5, hc, h⟩ := zk_bind h
      refine hr.2.2.1 _ _ _ _ _ (d + 3) rfl (by omega) (c_g_Mdl_codeDistance_s (l := l) (E := E) (d := d) (cb := cb) (pp := pp) hc) (fun v S hq => ?_)
      obtain ⟨rfl, rfl⟩ := hq
      clear hc
      refine hr.1 5 True _ _ (160, [some (.ref 7), some (.int x1), some (.int x2), some (.int x3), some (.int (x1 &&& ((zo_shl 1 (zg_i D 7 5)) - 1))), none], [.long q5.1, .int 3, .ref 7], [cb, 4, 5, pp], zp_l q5.2 7 10 q5.1) rfl trivial ?_
      obtain ⟨q6, hc, h⟩ := zk_bind h
      refine hr.2.2.1 _ _ _ _ _ (d + 3) rfl (by omega) (c_g_Mdl_bringForward (l := l) (E := E) (d := d + 3) (cb := cb) (sd := 4) (ln := 5) (pp := pp) hc) (fun v S hq => ?_)
      obtain ⟨rfl, rfl⟩ := hq
      clear hc
      refine hr.1 4 True _ _ (170, [some (.ref 7), some (.int x1), some (.int x2), some (.int x3), some (.int (x1 &&& ((zo_shl 1 (zg_i D 7 5)) - 1))), none], [.int 7, .int (zg_i q6 7 2), .ref 7], [cb, 4, 5, pp], q6) rfl trivial ?_
      refine hr.2.1 _ (7 ≤ zg_i q6 7 2) _ _ rfl (fun c170 => ?_) (fun c170 => ?_)
      · replace h := zk_t h c170
        refine hr.1 3 True _ _ (276, [some (.ref 7), some (.int x1), some (.int x2), some (.int x3), some (.int (x1 &&& ((zo_shl 1 (zg_i D 7 5)) - 1))), none], [], [cb, 4, 5, pp], zp_i q6 7 2 10) rfl trivial ?_
        exact hr.2.2.2 _ _ _ rfl trivial ⟨rfl, (congrArg (fun x => (([cb, 4, 5, pp], x) : zx_S)) (Option.some.inj h))⟩
      · replace h := zk_f h c170
        refine hr.1 4 True _ _ (276, [some (.ref 7), some (.int x1), some (.int x2), some (.int x3), some (.int (x1 &&& ((zo_shl 1 (zg_i D 7 5)) - 1))), none], [], [cb, 4, 5, pp], zp_i q6 7 2 7) rfl trivial ?_
        exact hr.2.2.2 _ _ _ rfl trivial ⟨rfl, (congrArg (fun x => (([cb, 4, 5, pp], x) : zx_S)) (Option.some.inj h))⟩
  · replace h := zk_f h c27
    refine hr.1 27 True _ _ (70, [some (.ref 7), some (.int x1), some (.int x2), some (.int x3), some (.int (x1 &&& ((zo_shl 1 (zg_i D 7 5)) - 1))), some (.int ((zo_shl (x1 &&& ((zo_shl 1 (zg_i q1.2 7 4)) - 1)) (zg_i q1.2 7 3)) + (zo_ushr x2 (8 - (zg_i q1.2 7 3)))))], [.int x3, .int (2052 + (768 * ((zo_shl (x1 &&& ((zo_shl 1 (zg_i q1.2 7 4)) - 1)) (zg_i q1.2 7 3)) + (zo_ushr x2 (8 - (zg_i q1.2 7 3)))))), .ref 7, .ref 7], [cb, 4, 5, pp], zp_i q1.2 7 7 q1.1) rfl trivial ?_
    obtain ⟨q7, hc, h⟩ := zk_bind h
    refine hr.2.2.1 _ _ _ _ _ (d + 3) rfl (by omega) (c_g_Mdl_codeLiteral_s (l := l) (E := E) (d := d + 1) (cb := cb) (pp := pp) hc) (fun v S hq => ?_)
    obtain ⟨rfl, rfl⟩ := hq
    clear hc
    refine hr.1 8 True _ _ (87, [some (.ref 7), some (.int x1), some (.int x2), some (.int x3), some (.int (x1 &&& ((zo_shl 1 (zg_i D 7 5)) - 1))), some (.int ((zo_shl (x1 &&& ((zo_shl 1 (zg_i q1.2 7 4)) - 1)) (zg_i q1.2 7 3)) + (zo_ushr x2 (8 - (zg_i q1.2 7 3)))))], [.int 4, .int (zg_i q7.2 7 2), .ref 7], [cb, 4, 5, pp], zp_i (zp_i q7.2 7 8 q7.1) 7 9 1) rfl trivial ?_
    refine hr.2.1 _ (4 ≤ zg_i q7.2 7 2) _ _ rfl (fun c87 => ?_) (fun c87 => ?_)
    · replace h := zk_t h c87
      refine hr.1 3 True _ _ (100, [some (.ref 7), some (.int x1), some (.int x2), some (.int x3), some (.int (x1 &&& ((zo_shl 1 (zg_i D 7 5)) - 1))), some (.int ((zo_shl (x1 &&& ((zo_shl 1 (zg_i q1.2 7 4)) - 1)) (zg_i q1.2 7 3)) + (zo_ushr x2 (8 - (zg_i q1.2 7 3)))))], [.int 10, .int (zg_i q7.2 7 2), .ref 7], [cb, 4, 5, pp], zp_i (zp_i q7.2 7 8 q7.1) 7 9 1) rfl trivial ?_
      refine hr.2.1 _ (10 ≤ zg_i q7.2 7 2) _ _ rfl (fun c100 => ?_) (fun c100 => ?_)
      · replace h := zk_t h c100
        refine hr.1 6 True _ _ (276, [some (.ref 7), some (.int x1), some (.int x2), some (.int x3), some (.int (x1 &&& ((zo_shl 1 (zg_i D 7 5)) - 1))), some (.int ((zo_shl (x1 &&& ((zo_shl 1 (zg_i q1.2 7 4)) - 1)) (zg_i q1.2 7 3)) + (zo_ushr x2 (8 - (zg_i q1.2 7 3)))))], [], [cb, 4, 5, pp], zp_i (zp_i (zp_i q7.2 7 8 q7.1) 7 9 1) 7 2 ((zg_i q7.2 7 2) - 6)) rfl trivial ?_
        exact hr.2.2.2 _ _ _ rfl trivial ⟨rfl, (congrArg (fun x => (([cb, 4, 5, pp], x) : zx_S)) (Option.some.inj h))⟩
      · replace h := zk_f h c100
        refine hr.1 7 True _ _ (276, [some (.ref 7), some (.int x1), some (.int x2), some (.int x3), some (.int (x1 &&& ((zo_shl 1 (zg_i D 7 5)) - 1))), some (.int ((zo_shl (x1 &&& ((zo_shl 1 (zg_i q1.2 7 4)) - 1)) (zg_i q1.2 7 3)) + (zo_ushr x2 (8 - (zg_i q1.2 7 3)))))], [], [cb, 4, 5, pp], zp_i (zp_i (zp_i q7.2 7 8 q7.1) 7 9 1) 7 2 ((zg_i q7.2 7 2) - 3)) rfl trivial ?_
        exact hr.2.2.2 _ _ _ rfl trivial ⟨rfl, (congrArg (fun x => (([cb, 4, 5, pp], x) : zx_S)) (Option.some.inj h))⟩
    · replace h := zk_f h c87
      refine hr.1 4 True _ _ (276, [some (.ref 7), some (.int x1), some (.int x2), some (.int x3), some (.int (x1 &&& ((zo_shl 1 (zg_i D 7 5)) - 1))), some (.int ((zo_shl (x1 &&& ((zo_shl 1 (zg_i q1.2 7 4)) - 1)) (zg_i q1.2 7 3)) + (zo_ushr x2 (8 - (zg_i q1.2 7 3)))))], [], [cb, 4, 5, pp], zp_i (zp_i (zp_i q7.2 7 8 q7.1) 7 9 1) 7 2 0) rfl trivial ?_
      exact hr.2.2.2 _ _ _ rfl trivial ⟨rfl, (congrArg (fun x => (([cb, 4, 5, pp], x) : zx_S)) (Option.some.inj h))⟩
set_option maxRecDepth 100000 in
set_option maxHeartbeats 4000000 in
theorem c_g_Row_repeat_10 {l : Launch} {E : zx_E} {d : Nat} {cb sd ln pp : Nat} {x1 : Int64} {x3 : Int32} {D : zx_D} {q : zx_D} (h : g_Row_repeat_10 x1 x3 D = some q) : zx_MC l E 25 (d + 1) [.ref 10, .long x1, .int x3] ([cb, sd, ln, pp], D) (fun v S => v = none ∧ S = ([cb, sd, ln, pp], q)) := by
  refine zx_ofC (K := ck_Row_repeat) rfl (by decide +kernel) rfl ok_Row_repeat (Nat.le_of_ble_eq_true rfl) (fun Zp hr => ?_)
  show Zp (0, [some (.ref 10), some (.long x1), none, some (.int x3), none], [], [cb, sd, ln, pp], D)
  have loop3 : ∀ (x1 : Int64) (x3 : Int32) (k : Nat) (x4 : Int32) (D : zx_D) (q : zx_D), g_Row_repeat_10_3 x1 x3 k x4 D = some q → (∀ (e4 : Int32), Zp (28, [some (.ref 10), some (.long x1), none, some (.int x3), some (.int e4)], [], [cb, sd, ln, pp], q)) → Zp (3, [some (.ref 10), some (.long x1), none, some (.int x3), some (.int x4)], [], [cb, sd, ln, pp], D) := by
    intro x1 x3 k
    induction k with
    | zero => intro x4 D q h hx; exact (zk_no h).elim
    | succ k ih =>
      intro x4 D q h hx
      rw [g_Row_repeat_10_3] at h
      refine hr.1 2 True _ _ (6, [some (.ref 10), some (.long x1), none, some (.int x3), some (.int x4)], [.int x3, .int x4], [cb, sd, ln, pp], D) rfl trivial ?_
      refine hr.2.1 _ (x3 ≤ x4) _ _ rfl (fun c6 => ?_) (fun c6 => ?_)
      · replace h := zk_t h c6
        replace h := Option.some.inj h
        subst h
        exact hx x4
      · replace h := zk_f h c6
        refine hr.1 5 True _ _ (16, [some (.ref 10), some (.long x1), none, some (.int x3), some (.int x4)], [.long x1, .int (zg_i D 10 1), .ref 10, .ref 10], [cb, sd, ln, pp], D) rfl trivial ?_
        obtain ⟨q1, hc, h⟩ := zk_bind h
        refine hr.2.2.1 _ _ _ _ _ (d) rfl (by omega) (c_g_Row_byteBack_10 (l := l) (E := E) (d := d) (cb := cb) (sd := sd) (ln := ln) (pp := pp) hc) (fun v S hq => ?_)
        obtain ⟨rfl, rfl⟩ := hq
        clear hc
        obtain ⟨q2, hc, h⟩ := zk_bind h
        refine hr.2.2.1 _ _ _ _ _ (d) rfl (by omega) (c_g_Row_append_10 (l := l) (E := E) (d := d) (cb := cb) (sd := sd) (ln := ln) (pp := pp) hc) (fun v S hq => ?_)
        obtain ⟨rfl, rfl⟩ := hq
        clear hc
        refine hr.1 2 True _ _ (3, [some (.ref 10), some (.long x1), none, some (.int x3), some (.int (x4 + 1))], [], [cb, sd, ln, pp], q2) rfl trivial ?_
        exact ih (x4 + 1) q2 _ h hx
  rw [g_Row_repeat_10] at h
  refine hr.1 2 True _ _ (3, [some (.ref 10), some (.long x1), none, some (.int x3), some (.int 0)], [], [cb, sd, ln, pp], D) rfl trivial ?_
  obtain ⟨q3, hc, h⟩ := zk_bind h
  refine loop3 x1 x3 10000 0 D q3 hc (fun e4 => ?_)
  clear hc
  exact hr.2.2.2 _ _ _ rfl trivial ⟨rfl, (congrArg (fun x => (([cb, sd, ln, pp], x) : zx_S)) (Option.some.inj h))⟩
set_option maxRecDepth 100000 in
set_option maxHeartbeats 4000000 in
theorem c_g_Unp_giveStep {l : Launch} {E : zx_E} {d : Nat} {cb sd ln pp : Nat} {x1 : Int32} {x2 : Int32} {D : zx_D} {q : Int32 × zx_D} (h : g_Unp_giveStep x1 x2 D = some q) : zx_MC l E 82 (d + 2) [.ref 9, .int x1, .int x2] ([cb, sd, ln, pp], D) (fun v S => v = some (.int q.1) ∧ S = ([cb, sd, ln, pp], q.2)) := by
  refine zx_ofC (K := ck_Unp_giveStep) rfl (by decide +kernel) rfl ok_Unp_giveStep (Nat.le_of_ble_eq_true rfl) (fun Zp hr => ?_)
  show Zp (0, [some (.ref 9), some (.int x1), some (.int x2)], [], [cb, sd, ln, pp], D)
  rw [g_Unp_giveStep] at h
  refine hr.1 4 True _ _ (8, [some (.ref 9), some (.int x1), some (.int x2)], [.int 1, .int (zg_i D 7 7)], [cb, sd, ln, pp], D) rfl trivial ?_
  refine hr.2.1 _ (¬ zg_i D 7 7 = 1) _ _ rfl (fun c8 => ?_) (fun c8 => ?_)
  · replace h := zk_t h c8
    refine hr.1 3 True _ _ (32, [some (.ref 9), some (.int x1), some (.int x2)], [.int 0, .ref 7], [cb, sd, ln, pp], D) rfl trivial ?_
    obtain ⟨q1, hc, h⟩ := zk_bind h
    refine hr.2.2.1 _ _ _ _ _ (d + 1) rfl (by omega) (c_g_Mdl_distanceOf (l := l) (E := E) (d := d + 1) (cb := cb) (sd := sd) (ln := ln) (pp := pp) hc) (fun v S hq => ?_)
    obtain ⟨rfl, rfl⟩ := hq
    clear hc
    refine hr.1 2 True _ _ (37, [some (.ref 9), some (.int x1), some (.int x2)], [.long ((x1).toInt64), .long q1], [cb, sd, ln, pp], D) rfl trivial ?_
    refine hr.2.1 _ ((x1).toInt64 < q1) _ _ rfl (fun c37 => ?_) (fun c37 => ?_)
    · replace h := zk_t h c37
      refine hr.1 1 True _ _ (61, [some (.ref 9), some (.int x1), some (.int x2)], [.int 0], [cb, sd, ln, pp], D) rfl trivial ?_
      exact hr.2.2.2 _ _ _ rfl (Or.inl rfl) ⟨(congrArg (fun x => some (Value.int x.1)) (Option.some.inj h)), (congrArg (fun x => (([cb, sd, ln, pp], x.2) : zx_S)) (Option.some.inj h))⟩
    · replace h := zk_f h c37
      refine hr.1 8 True _ _ (57, [some (.ref 9), some (.int x1), some (.int x2)], [.int (x2 - (zg_i D 10 1)), .int (zg_i D 7 9)], [cb, sd, ln, pp], D) rfl trivial ?_
      refine hr.2.1 _ (zg_i D 7 9 ≤ x2 - (zg_i D 10 1)) _ _ rfl (fun c57 => ?_) (fun c57 => ?_)
      · replace h := zk_t h c57
        refine hr.1 5 True _ _ (71, [some (.ref 9), some (.int x1), some (.int x2)], [.int 0, .ref 7, .ref 10], [cb, sd, ln, pp], D) rfl trivial ?_
        obtain ⟨q2, hc, h⟩ := zk_bind h
        refine hr.2.2.1 _ _ _ _ _ (d + 1) rfl (by omega) (c_g_Mdl_distanceOf (l := l) (E := E) (d := d + 1) (cb := cb) (sd := sd) (ln := ln) (pp := pp) hc) (fun v S hq => ?_)
        obtain ⟨rfl, rfl⟩ := hq
        clear hc
        refine hr.1 3 True _ _ (81, [some (.ref 9), some (.int x1), some (.int x2)], [.int (zg_i D 7 9), .long q2, .ref 10], [cb, sd, ln, pp], D) rfl trivial ?_
        obtain ⟨q3, hc, h⟩ := zk_bind h
        refine hr.2.2.1 _ _ _ _ _ (d + 1) rfl (by omega) (c_g_Row_repeat_10 (l := l) (E := E) (d := d) (cb := cb) (sd := sd) (ln := ln) (pp := pp) hc) (fun v S hq => ?_)
        obtain ⟨rfl, rfl⟩ := hq
        clear hc
        refine hr.1 1 True _ _ (85, [some (.ref 9), some (.int x1), some (.int x2)], [.int 1], [cb, sd, ln, pp], q3) rfl trivial ?_
        exact hr.2.2.2 _ _ _ rfl (Or.inr rfl) ⟨(congrArg (fun x => some (Value.int x.1)) (Option.some.inj h)), (congrArg (fun x => (([cb, sd, ln, pp], x.2) : zx_S)) (Option.some.inj h))⟩
      · replace h := zk_f h c57
        refine hr.1 1 True _ _ (61, [some (.ref 9), some (.int x1), some (.int x2)], [.int 0], [cb, sd, ln, pp], D) rfl trivial ?_
        exact hr.2.2.2 _ _ _ rfl (Or.inl rfl) ⟨(congrArg (fun x => some (Value.int x.1)) (Option.some.inj h)), (congrArg (fun x => (([cb, sd, ln, pp], x.2) : zx_S)) (Option.some.inj h))⟩
  · replace h := zk_f h c8
    refine hr.1 5 True _ _ (22, [some (.ref 9), some (.int x1), some (.int x2)], [.int (zg_i D 7 8), .ref 10], [cb, sd, ln, pp], D) rfl trivial ?_
    obtain ⟨q4, hc, h⟩ := zk_bind h
    refine hr.2.2.1 _ _ _ _ _ (d + 1) rfl (by omega) (c_g_Row_append_10 (l := l) (E := E) (d := d + 1) (cb := cb) (sd := sd) (ln := ln) (pp := pp) hc) (fun v S hq => ?_)
    obtain ⟨rfl, rfl⟩ := hq
    clear hc
    refine hr.1 1 True _ _ (26, [some (.ref 9), some (.int x1), some (.int x2)], [.int 1], [cb, sd, ln, pp], q4) rfl trivial ?_
    exact hr.2.2.2 _ _ _ rfl (Or.inr rfl) ⟨(congrArg (fun x => some (Value.int x.1)) (Option.some.inj h)), (congrArg (fun x => (([cb, sd, ln, pp], x.2) : zx_S)) (Option.some.inj h))⟩
set_option maxRecDepth 100000 in
set_option maxHeartbeats 4000000 in
theorem c_g_Unp_giveCoded {l : Launch} {E : zx_E} {d : Nat} {sd ln pp : Nat} {D : zx_D} {q : Nat × Nat × zx_D} (h : g_Unp_giveCoded sd ln D = some q) : zx_MC l E 81 (d + 5) [.ref 9] ([4, sd, ln, pp], D) (fun v S => v = none ∧ S = ([4, q.1, q.2.1, pp], q.2.2)) := by
  refine zx_ofC (K := ck_Unp_giveCoded) rfl (by decide +kernel) rfl ok_Unp_giveCoded (Nat.le_of_ble_eq_true rfl) (fun Zp hr => ?_)
  show Zp (0, [some (.ref 9), none, none, none, none], [], [4, sd, ln, pp], D)
  have loop71 : ∀ (x1 : Int32) (k : Nat) (x2 : Int32) (D : zx_D) (o3 : Option Value) (o4 : Option Value), g_Unp_giveCoded_71 x1 k x2 D = some q → Zp (71, [some (.ref 9), some (.int x1), some (.int x2), o3, o4], [], [4, 4, 5, pp], D) := by
    intro x1 k
    induction k with
    | zero => intro x2 D o3 o4 h; exact (zk_no h).elim
    | succ k ih =>
      intro x2 D o3 o4 h
      rw [g_Unp_giveCoded_71] at h
      refine hr.1 3 True _ _ (76, [some (.ref 9), some (.int x1), some (.int x2), o3, o4], [.int (zg_i D 9 16), .int x2], [4, 4, 5, pp], D) rfl trivial ?_
      refine hr.2.1 _ (zg_i D 9 16 ≤ x2) _ _ rfl (fun c76 => ?_) (fun c76 => ?_)
      · replace h := zk_t h c76
        refine hr.1 2 True _ _ (222, [some (.ref 9), some (.int x1), some (.int x2), o3, o4], [.ref 5], [4, 4, 5, pp], D) rfl trivial ?_
        obtain ⟨q4, hc, h⟩ := zk_bind h
        refine hr.2.2.1 _ _ _ _ _ (d + 4) rfl (by omega) (c_g_Src_endsWell (l := l) (E := E) (d := d + 3) (cb := 4) (ln := 5) (pp := pp) hc) (fun v S hq => ?_)
        obtain ⟨rfl, rfl⟩ := hq
        clear hc
        refine hr.2.1 _ (¬ q4.1 = 0) _ _ rfl (fun c225 => ?_) (fun c225 => ?_)
        · replace h := zk_t h c225
          refine hr.1 16 True _ _ (272, [some (.ref 9), some (.int x1), some (.int x2), o3, o4], [], [4, 4, 5, pp], zp_i (zp_i q4.2 12 3 ((zg_i q4.2 12 3) + (zg_i q4.2 9 17))) 14 (zn 8) ((zg_i q4.2 14 (zn 8)) + 1)) rfl ⟨⟨trivial, (zk_vp rfl)⟩, (zk_vp rfl)⟩ ?_
          exact hr.2.2.2 _ _ _ rfl trivial ⟨rfl, (congrArg (fun x => (([4, x.1, x.2.1, pp], x.2.2) : zx_S)) (Option.some.inj h))⟩
        · replace h := zk_f h c225
          refine hr.1 6 True _ _ (241, [some (.ref 9), some (.int x1), some (.int x2), o3, o4], [.int (zg_i q4.2 12 3), .int (-6), .ref 12], [4, 4, 5, pp], q4.2) rfl trivial ?_
          obtain ⟨q5, hc, h⟩ := zk_bind h
          refine hr.2.2.1 _ _ _ _ _ (d + 4) rfl (by omega) (c_g_Cur_fail (l := l) (E := E) (d := d + 4) (cb := 4) (sd := 4) (ln := 5) (pp := pp) hc) (fun v S hq => ?_)
          obtain ⟨rfl, rfl⟩ := hq
          clear hc
          exact hr.2.2.2 _ _ _ rfl trivial ⟨rfl, (congrArg (fun x => (([4, x.1, x.2.1, pp], x.2.2) : zx_S)) (Option.some.inj h))⟩
      · replace h := zk_f h c76
        refine hr.1 4 True _ _ (87, [some (.ref 9), some (.int x1), some (.int x2), o3, o4], [.int x1, .int (zg_i D 10 1)], [4, 4, 5, pp], D) rfl trivial ?_
        refine hr.2.1 _ (x1 ≤ zg_i D 10 1) _ _ rfl (fun c87 => ?_) (fun c87 => ?_)
        · replace h := zk_t h c87
          refine hr.1 2 True _ _ (222, [some (.ref 9), some (.int x1), some (.int x2), o3, o4], [.ref 5], [4, 4, 5, pp], D) rfl trivial ?_
          obtain ⟨q6, hc, h⟩ := zk_bind h
          refine hr.2.2.1 _ _ _ _ _ (d + 4) rfl (by omega) (c_g_Src_endsWell (l := l) (E := E) (d := d + 3) (cb := 4) (ln := 5) (pp := pp) hc) (fun v S hq => ?_)
          obtain ⟨rfl, rfl⟩ := hq
          clear hc
          refine hr.2.1 _ (¬ q6.1 = 0) _ _ rfl (fun c225 => ?_) (fun c225 => ?_)
          · replace h := zk_t h c225
            refine hr.1 16 True _ _ (272, [some (.ref 9), some (.int x1), some (.int x2), o3, o4], [], [4, 4, 5, pp], zp_i (zp_i q6.2 12 3 ((zg_i q6.2 12 3) + (zg_i q6.2 9 17))) 14 (zn 8) ((zg_i q6.2 14 (zn 8)) + 1)) rfl ⟨⟨trivial, (zk_vp rfl)⟩, (zk_vp rfl)⟩ ?_
            exact hr.2.2.2 _ _ _ rfl trivial ⟨rfl, (congrArg (fun x => (([4, x.1, x.2.1, pp], x.2.2) : zx_S)) (Option.some.inj h))⟩
          · replace h := zk_f h c225
            refine hr.1 6 True _ _ (241, [some (.ref 9), some (.int x1), some (.int x2), o3, o4], [.int (zg_i q6.2 12 3), .int (-6), .ref 12], [4, 4, 5, pp], q6.2) rfl trivial ?_
            obtain ⟨q7, hc, h⟩ := zk_bind h
            refine hr.2.2.1 _ _ _ _ _ (d + 4) rfl (by omega) (c_g_Cur_fail (l := l) (E := E) (d := d + 4) (cb := 4) (sd := 4) (ln := 5) (pp := pp) hc) (fun v S hq => ?_)
            obtain ⟨rfl, rfl⟩ := hq
            clear hc
            exact hr.2.2.2 _ _ _ rfl trivial ⟨rfl, (congrArg (fun x => (([4, x.1, x.2.1, pp], x.2.2) : zx_S)) (Option.some.inj h))⟩
        · replace h := zk_f h c87
          refine hr.1 8 True _ _ (104, [some (.ref 9), some (.int x1), some (.int x2), some (.int ((zg_i D 10 1) - (zg_i D 9 12))), o4], [.int ((zg_i D 10 1) - (zg_i D 9 12))], [4, 4, 5, pp], D) rfl trivial ?_
          obtain ⟨q9, hj, h⟩ := zk_bind h
          have J126 : ∀ (_ : True), Zp (126, [some (.ref 9), some (.int x1), some (.int x2), some (.int ((zg_i D 10 1) - (zg_i D 9 12))), o4], [.int q9], [4, 4, 5, pp], D) := by
            intro _
            refine hr.1 13 True _ _ (151, [some (.ref 9), some (.int x1), some (.int x2), some (.int ((zg_i D 10 1) - (zg_i D 9 12))), some (.int q9)], [.int 0, .ref 7, .int (zg_i D 10 1), .ref 10, .int q9, .int ((zg_i D 10 1) - (zg_i D 9 12)), .ref 7], [4, 4, 5, pp], D) rfl trivial ?_
            obtain ⟨q10, hc, h⟩ := zk_bind h
            refine hr.2.2.1 _ _ _ _ _ (d + 4) rfl (by omega) (c_g_Mdl_distanceOf (l := l) (E := E) (d := d + 4) (cb := 4) (sd := 4) (ln := 5) (pp := pp) hc) (fun v S hq => ?_)
            obtain ⟨rfl, rfl⟩ := hq
            clear hc
            obtain ⟨q11, hc, h⟩ := zk_bind h
            refine hr.2.2.1 _ _ _ _ _ (d + 4) rfl (by omega) (c_g_Row_byteBack_10 (l := l) (E := E) (d := d + 4) (cb := 4) (sd := 4) (ln := 5) (pp := pp) hc) (fun v S hq => ?_)
            obtain ⟨rfl, rfl⟩ := hq
            clear hc
            obtain ⟨q12, hc, h⟩ := zk_bind h
            refine hr.2.2.1 _ _ _ _ _ (d + 4) rfl (by omega) (c_g_Mdl_step_s (l := l) (E := E) (d := d) (cb := 4) (pp := pp) hc) (fun v S hq => ?_)
            obtain ⟨rfl, rfl⟩ := hq
            clear hc
            refine hr.1 3 True _ _ (167, [some (.ref 9), some (.int x1), some (.int x2), some (.int ((zg_i D 10 1) - (zg_i D 9 12))), some (.int q9)], [.int (zg_i q12 5 2)], [4, 4, 5, pp], q12) rfl trivial ?_
            refine hr.2.1 _ (¬ zg_i q12 5 2 = 0) _ _ rfl (fun c167 => ?_) (fun c167 => ?_)
            · replace h := zk_t h c167
              refine hr.1 6 True _ _ (192, [some (.ref 9), some (.int x1), some (.int x2), some (.int ((zg_i D 10 1) - (zg_i D 9 12))), some (.int q9)], [.int (zg_i q12 12 3), .int (-6), .ref 12], [4, 4, 5, pp], q12) rfl trivial ?_
              obtain ⟨q13, hc, h⟩ := zk_bind h
              refine hr.2.2.1 _ _ _ _ _ (d + 4) rfl (by omega) (c_g_Cur_fail (l := l) (E := E) (d := d + 4) (cb := 4) (sd := 4) (ln := 5) (pp := pp) hc) (fun v S hq => ?_)
              obtain ⟨rfl, rfl⟩ := hq
              clear hc
              exact hr.2.2.2 _ _ _ rfl trivial ⟨rfl, (congrArg (fun x => (([4, x.1, x.2.1, pp], x.2.2) : zx_S)) (Option.some.inj h))⟩
            · replace h := zk_f h c167
              refine hr.1 3 True _ _ (173, [some (.ref 9), some (.int x1), some (.int x2), some (.int ((zg_i D 10 1) - (zg_i D 9 12))), some (.int q9)], [.int x1, .int ((zg_i D 10 1) - (zg_i D 9 12)), .ref 9], [4, 4, 5, pp], q12) rfl trivial ?_
              obtain ⟨q14, hc, h⟩ := zk_bind h
              refine hr.2.2.1 _ _ _ _ _ (d + 4) rfl (by omega) (c_g_Unp_giveStep (l := l) (E := E) (d := d + 2) (cb := 4) (sd := 4) (ln := 5) (pp := pp) hc) (fun v S hq => ?_)
              obtain ⟨rfl, rfl⟩ := hq
              clear hc
              refine hr.2.1 _ (¬ q14.1 = 0) _ _ rfl (fun c176 => ?_) (fun c176 => ?_)
              · replace h := zk_t h c176
                obtain ⟨w3, h⟩ := zk_ck h
                obtain ⟨w4, h⟩ := zk_ck h
                refine hr.1 12 True _ _ (71, [some (.ref 9), some (.int x1), some (.int (x2 + 1)), some (.int ((zg_i D 10 1) - (zg_i D 9 12))), some (.int q9)], [], [4, 4, 5, pp], zp_i q14.2 14 (zn (zg_i q14.2 7 7)) ((zg_i q14.2 14 (zn (zg_i q14.2 7 7))) + 1)) rfl ⟨⟨trivial, (zk_vp w3)⟩, (zk_vp w4)⟩ ?_
                exact ih (x2 + 1) (zp_i q14.2 14 (zn (zg_i q14.2 7 7)) ((zg_i q14.2 14 (zn (zg_i q14.2 7 7))) + 1)) _ _ h
              · replace h := zk_f h c176
                refine hr.1 6 True _ _ (192, [some (.ref 9), some (.int x1), some (.int x2), some (.int ((zg_i D 10 1) - (zg_i D 9 12))), some (.int q9)], [.int (zg_i q14.2 12 3), .int (-6), .ref 12], [4, 4, 5, pp], q14.2) rfl trivial ?_
                obtain ⟨q15, hc, h⟩ := zk_bind h
                refine hr.2.2.1 _ _ _ _ _ (d + 4) rfl (by omega) (c_g_Cur_fail (l := l) (E := E) (d := d + 4) (cb := 4) (sd := 4) (ln := 5) (pp := pp) hc) (fun v S hq => ?_)
                obtain ⟨rfl, rfl⟩ := hq
                clear hc
                exact hr.2.2.2 _ _ _ rfl trivial ⟨rfl, (congrArg (fun x => (([4, x.1, x.2.1, pp], x.2.2) : zx_S)) (Option.some.inj h))⟩
          clear h
          have h := hj
          clear hj
          refine hr.2.1 _ ((zg_i D 10 1) - (zg_i D 9 12) ≤ 0) _ _ rfl (fun c104 => ?_) (fun c104 => ?_)
          · replace h := zk_t h c104
            refine hr.1 1 True _ _ (126, [some (.ref 9), some (.int x1), some (.int x2), some (.int ((zg_i D 10 1) - (zg_i D 9 12))), o4], [.int 0], [4, 4, 5, pp], D) rfl trivial ?_
            replace h := Option.some.inj h
            subst h
            exact J126 trivial
          · replace h := zk_f h c104
            refine hr.1 6 True _ _ (119, [some (.ref 9), some (.int x1), some (.int x2), some (.int ((zg_i D 10 1) - (zg_i D 9 12))), o4], [.long 1, .int (zg_i D 10 1), .ref 10], [4, 4, 5, pp], D) rfl trivial ?_
            obtain ⟨q8, hc, h⟩ := zk_bind h
            refine hr.2.2.1 _ _ _ _ _ (d + 4) rfl (by omega) (c_g_Row_byteBack_10 (l := l) (E := E) (d := d + 4) (cb := 4) (sd := 4) (ln := 5) (pp := pp) hc) (fun v S hq => ?_)
            obtain ⟨rfl, rfl⟩ := hq
            clear hc
            refine hr.1 1 True _ _ (126, [some (.ref 9), some (.int x1), some (.int x2), some (.int ((zg_i D 10 1) - (zg_i D 9 12))), o4], [.int q8], [4, 4, 5, pp], D) rfl trivial ?_
            replace h := Option.some.inj h
            subst h
            exact J126 trivial
  rw [g_Unp_giveCoded] at h
  refine hr.1 3 True _ _ (5, [some (.ref 9), none, none, none, none], [.int (zg_i D 9 17), .ref 9], [4, sd, ln, pp], D) rfl trivial ?_
  obtain ⟨q1, hc, h⟩ := zk_bind h
  refine hr.2.2.1 _ _ _ _ _ (d + 4) rfl (by omega) (c_g_Unp_hasBytesAndRoom (l := l) (E := E) (d := d + 2) (cb := 4) (sd := sd) (ln := ln) (pp := pp) hc) (fun v S hq => ?_)
  obtain ⟨rfl, rfl⟩ := hq
  clear hc
  refine hr.2.1 _ (¬ q1.1 = 0) _ _ rfl (fun c8 => ?_) (fun c8 => ?_)
  · replace h := zk_t h c8
    refine hr.1 21 True _ _ (55, [some (.ref 9), some (.int ((zg_i q1.2 10 1) + (zg_i q1.2 9 16))), none, none, none], [.int ((zg_i q1.2 12 3) + (zg_i q1.2 9 17)), .int (zg_i q1.2 12 3), .ref 4, .ref 5], [4, sd, ln, pp], q1.2) rfl trivial ?_
    obtain ⟨q2, hc, h⟩ := zk_bind h
    refine hr.2.2.1 _ _ _ _ _ (d + 4) rfl (by omega) (c_g_Src_begin_4 (l := l) (E := E) (d := d + 4) (cb := 4) (sd := sd) (ln := ln) (pp := pp) hc) (fun v S hq => ?_)
    obtain ⟨rfl, rfl⟩ := hq
    clear hc
    refine hr.1 4 True _ _ (66, [some (.ref 9), some (.int ((zg_i q1.2 10 1) + (zg_i q1.2 9 16))), none, none, none], [.ref 5, .ref 7], [4, 4, ln, pp], q2) rfl trivial ?_
    obtain ⟨q3, hc, h⟩ := zk_bind h
    refine hr.2.2.1 _ _ _ _ _ (d + 4) rfl (by omega) (c_g_Mdl_useLine_5 (l := l) (E := E) (d := d + 4) (cb := 4) (sd := 4) (ln := ln) (pp := pp) hc) (fun v S hq => ?_)
    obtain ⟨rfl, rfl⟩ := hq
    clear hc
    refine hr.1 2 True _ _ (71, [some (.ref 9), some (.int ((zg_i q1.2 10 1) + (zg_i q1.2 9 16))), some (.int 0), none, none], [], [4, 4, 5, pp], q2) rfl trivial ?_
    exact loop71 ((zg_i q1.2 10 1) + (zg_i q1.2 9 16)) 10000 0 q2 none none h
  · replace h := zk_f h c8
    exact hr.2.2.2 _ _ _ rfl trivial ⟨rfl, (congrArg (fun x => (([4, x.1, x.2.1, pp], x.2.2) : zx_S)) (Option.some.inj h))⟩
set_option maxRecDepth 100000 in
set_option maxHeartbeats 4000000 in
theorem c_g_Unp_readBlock {l : Launch} {E : zx_E} {d : Nat} {sd ln pp : Nat} {D : zx_D} {q : Nat × Nat × zx_D} (h : g_Unp_readBlock sd ln D = some q) : zx_MC l E 72 (d + 6) [.ref 9] ([4, sd, ln, pp], D) (fun v S => v = none ∧ S = ([4, q.1, q.2.1, pp], q.2.2)) := by
  refine zx_ofC (K := ck_Unp_readBlock) rfl (by decide +kernel) rfl ok_Unp_readBlock (Nat.le_of_ble_eq_true rfl) (fun Zp hr => ?_)
  show Zp (0, [some (.ref 9), none, none], [], [4, sd, ln, pp], D)
  have loop46 : ∀ (x1 : Int32) (k : Nat) (x2 : Int32) (r1 : Nat) (r2 : Nat) (D : zx_D), g_Unp_readBlock_46 x1 k x2 r1 r2 D = some q → Zp (46, [some (.ref 9), some (.int x1), some (.int x2)], [], [4, r1, r2, pp], D) := by
    intro x1 k
    induction k with
    | zero => intro x2 r1 r2 D h; exact (zk_no h).elim
    | succ k ih =>
      intro x2 r1 r2 D h
      rw [g_Unp_readBlock_46] at h
      refine hr.1 2 True _ _ (50, [some (.ref 9), some (.int x1), some (.int x2)], [.int 640, .int x2], [4, r1, r2, pp], D) rfl trivial ?_
      refine hr.2.1 _ (640 ≤ x2) _ _ rfl (fun c50 => ?_) (fun c50 => ?_)
      · replace h := zk_t h c50
        refine hr.1 2 True _ _ (116, [some (.ref 9), some (.int x1), some (.int x2)], [.int x1, .ref 9], [4, r1, r2, pp], D) rfl trivial ?_
        obtain ⟨q2, hc, h⟩ := zk_bind h
        refine hr.2.2.1 _ _ _ _ _ (d + 5) rfl (by omega) (c_g_Unp_closeBlock (l := l) (E := E) (d := d) (sd := r1) (ln := r2) (pp := pp) hc) (fun v S hq => ?_)
        obtain ⟨rfl, rfl⟩ := hq
        clear hc
        exact hr.2.2.2 _ _ _ rfl trivial ⟨rfl, (congrArg (fun x => (([4, x.1, x.2.1, pp], x.2.2) : zx_S)) (Option.some.inj h))⟩
      · replace h := zk_f h c50
        refine hr.1 2 True _ _ (57, [some (.ref 9), some (.int x1), some (.int x2)], [.ref 12], [4, r1, r2, pp], D) rfl trivial ?_
        obtain ⟨q3, hc, h⟩ := zk_bind h
        refine hr.2.2.1 _ _ _ _ _ (d + 5) rfl (by omega) (c_g_Cur_isSound (l := l) (E := E) (d := d + 5) (cb := 4) (sd := r1) (ln := r2) (pp := pp) hc) (fun v S hq => ?_)
        obtain ⟨rfl, rfl⟩ := hq
        clear hc
        refine hr.2.1 _ (q3 = 0) _ _ rfl (fun c60 => ?_) (fun c60 => ?_)
        · replace h := zk_t h c60
          refine hr.1 2 True _ _ (116, [some (.ref 9), some (.int x1), some (.int x2)], [.int x1, .ref 9], [4, r1, r2, pp], D) rfl trivial ?_
          obtain ⟨q4, hc, h⟩ := zk_bind h
          refine hr.2.2.1 _ _ _ _ _ (d + 5) rfl (by omega) (c_g_Unp_closeBlock (l := l) (E := E) (d := d) (sd := r1) (ln := r2) (pp := pp) hc) (fun v S hq => ?_)
          obtain ⟨rfl, rfl⟩ := hq
          clear hc
          exact hr.2.2.2 _ _ _ rfl trivial ⟨rfl, (congrArg (fun x => (([4, x.1, x.2.1, pp], x.2.2) : zx_S)) (Option.some.inj h))⟩
        · replace h := zk_f h c60
          refine hr.1 1 True _ _ (64, [some (.ref 9), some (.int x1), some (.int x2)], [.ref 9], [4, r1, r2, pp], D) rfl trivial ?_
          obtain ⟨q5, hc, h⟩ := zk_bind h
          refine hr.2.2.1 _ _ _ _ _ (d + 5) rfl (by omega) (c_g_Unp_readChunkHead (l := l) (E := E) (d := d + 1) (sd := r1) (ln := r2) (pp := pp) hc) (fun v S hq => ?_)
          obtain ⟨rfl, rfl⟩ := hq
          clear hc
          refine hr.1 2 True _ _ (71, [some (.ref 9), some (.int x1), some (.int x2)], [.int (zg_i q5 9 15)], [4, r1, r2, pp], q5) rfl trivial ?_
          refine hr.2.1 _ (zg_i q5 9 15 = 0) _ _ rfl (fun c71 => ?_) (fun c71 => ?_)
          · replace h := zk_t h c71
            refine hr.1 2 True _ _ (116, [some (.ref 9), some (.int x1), some (.int x2)], [.int x1, .ref 9], [4, r1, r2, pp], q5) rfl trivial ?_
            obtain ⟨q6, hc, h⟩ := zk_bind h
            refine hr.2.2.1 _ _ _ _ _ (d + 5) rfl (by omega) (c_g_Unp_closeBlock (l := l) (E := E) (d := d) (sd := r1) (ln := r2) (pp := pp) hc) (fun v S hq => ?_)
            obtain ⟨rfl, rfl⟩ := hq
            clear hc
            exact hr.2.2.2 _ _ _ rfl trivial ⟨rfl, (congrArg (fun x => (([4, x.1, x.2.1, pp], x.2.2) : zx_S)) (Option.some.inj h))⟩
          · replace h := zk_f h c71
            refine hr.1 2 True _ _ (78, [some (.ref 9), some (.int x1), some (.int x2)], [.ref 12], [4, r1, r2, pp], q5) rfl trivial ?_
            obtain ⟨q7, hc, h⟩ := zk_bind h
            refine hr.2.2.1 _ _ _ _ _ (d + 5) rfl (by omega) (c_g_Cur_isSound (l := l) (E := E) (d := d + 5) (cb := 4) (sd := r1) (ln := r2) (pp := pp) hc) (fun v S hq => ?_)
            obtain ⟨rfl, rfl⟩ := hq
            clear hc
            refine hr.2.1 _ (¬ q7 = 0) _ _ rfl (fun c81 => ?_) (fun c81 => ?_)
            · replace h := zk_t h c81
              refine hr.1 3 True _ _ (94, [some (.ref 9), some (.int x1), some (.int x2)], [.int 128, .int (zg_i q5 9 15)], [4, r1, r2, pp], q5) rfl trivial ?_
              refine hr.2.1 _ (zg_i q5 9 15 < 128) _ _ rfl (fun c94 => ?_) (fun c94 => ?_)
              · replace h := zk_t h c94
                refine hr.1 1 True _ _ (105, [some (.ref 9), some (.int x1), some (.int x2)], [.ref 9], [4, r1, r2, pp], q5) rfl trivial ?_
                obtain ⟨q8, hc, h⟩ := zk_bind h
                refine hr.2.2.1 _ _ _ _ _ (d + 5) rfl (by omega) (c_g_Unp_givePlain (l := l) (E := E) (d := d + 2) (sd := r1) (ln := r2) (pp := pp) hc) (fun v S hq => ?_)
                obtain ⟨rfl, rfl⟩ := hq
                clear hc
                refine hr.1 2 True _ _ (46, [some (.ref 9), some (.int x1), some (.int (x2 + 1))], [], [4, r1, r2, pp], q8) rfl trivial ?_
                exact ih (x2 + 1) r1 r2 q8 h
              · replace h := zk_f h c94
                refine hr.1 1 True _ _ (98, [some (.ref 9), some (.int x1), some (.int x2)], [.ref 9], [4, r1, r2, pp], q5) rfl trivial ?_
                obtain ⟨q9, hc, h⟩ := zk_bind h
                refine hr.2.2.1 _ _ _ _ _ (d + 5) rfl (by omega) (c_g_Unp_giveCoded (l := l) (E := E) (d := d) (sd := r1) (ln := r2) (pp := pp) hc) (fun v S hq => ?_)
                obtain ⟨rfl, rfl⟩ := hq
                clear hc
                refine hr.1 3 True _ _ (46, [some (.ref 9), some (.int x1), some (.int (x2 + 1))], [], [4, q9.1, q9.2.1, pp], q9.2.2) rfl trivial ?_
                exact ih (x2 + 1) q9.1 q9.2.1 q9.2.2 h
            · replace h := zk_f h c81
              refine hr.1 3 True _ _ (116, [some (.ref 9), some (.int x1), some (.int x2)], [.int x1, .ref 9], [4, r1, r2, pp], q5) rfl trivial ?_
              obtain ⟨q10, hc, h⟩ := zk_bind h
              refine hr.2.2.1 _ _ _ _ _ (d + 5) rfl (by omega) (c_g_Unp_closeBlock (l := l) (E := E) (d := d) (sd := r1) (ln := r2) (pp := pp) hc) (fun v S hq => ?_)
              obtain ⟨rfl, rfl⟩ := hq
              clear hc
              exact hr.2.2.2 _ _ _ rfl trivial ⟨rfl, (congrArg (fun x => (([4, x.1, x.2.1, pp], x.2.2) : zx_S)) (Option.some.inj h))⟩
  rw [g_Unp_readBlock] at h
  refine hr.1 17 True _ _ (33, [some (.ref 9), none, none], [.ref 9], [4, sd, ln, pp], zp_i (zp_i (zp_i (zp_i D 9 8 (zg_i D 12 3)) 9 9 (zg_i D 10 1)) 9 13 1) 9 14 1) rfl ⟨⟨trivial, (Or.inr rfl)⟩, (Or.inr rfl)⟩ ?_
  obtain ⟨q1, hc, h⟩ := zk_bind h
  refine hr.2.2.1 _ _ _ _ _ (d + 5) rfl (by omega) (c_g_Unp_readHead (l := l) (E := E) (d := d + 1) (sd := sd) (ln := ln) (pp := pp) hc) (fun v S hq => ?_)
  obtain ⟨rfl, rfl⟩ := hq
  clear hc
  refine hr.1 6 True _ _ (46, [some (.ref 9), some (.int (zg_i q1 12 3)), some (.int 0)], [], [4, sd, ln, pp], q1) rfl trivial ?_
  exact loop46 (zg_i q1 12 3) 10000 0 sd ln q1 h
